/-! the world at the loop's begin as a memory; expanded by px.py out of k6.src -/
def mzI (k i : Nat) : Int32 := if k = 0 then (if i = 7 ∨ i = 8 then -ic 1 else ic 0) else if k = 292 then (if i = 8 ∨ i = 9 then -ic 1 else ic 0) else if k < 256 ∧ kd k = 5 then (if i < 6 then -ic 1 else ic 0) else if kd k = 6 then (if i = 7 then -ic 1 else ic 0) else ic 0
def mzP (n0 vj k i : Nat) : Nat := if k = 290 then n0 + 291 else if 272 ≤ k then vj else if k = 257 then 263 + i else k + (4 + i)
def mz (n0 vj : Nat) : mm := (mzI, mzP n0 vj, fun _ _ => 0, fun _ _ => 0)
def byZ : sC := .inl (.byte, (16, .inl (fun _ => ic 0)))
def wF (n0 vj k : Nat) : sC := if k = 291 then byZ else clK n0 (mz n0 vj) k (kd k)
section K6
variable {n0 N z d J i b vj s : Nat} {S0 : Nat → Value} {G : sH} {f g : Nat → sC}
theorem mz_i (k : Nat) : ri (mz n0 vj) k = mzI k := rfl
theorem mz_p (k : Nat) : rp (mz n0 vj) k = mzP n0 vj k := rfl
theorem mz_l (k i : Nat) : rl (mz n0 vj) k i = 0 := rfl
theorem mz_d (k i : Nat) : rd (mz n0 vj) k i = 0 := rfl
theorem mzI_0 {k : Nat} (h0 : k ≠ 0) (h1 : k ≠ 292) (h2 : ¬ (k < 256 ∧ kd k = 5)) (h3 : kd k ≠ 6) : mzI k = fun _ => ic 0 := by
  funext i
  unfold mzI
  rw [if_neg h0, if_neg h1, if_neg h2, if_neg h3]
theorem mz_job {k : Nat} (h0 : k ≠ 0) (hk : kd k = 6) : clK n0 (mz n0 vj) k 6 = jbK := by
  have h1 : k ≠ 292 := fun h => by rw [h] at hk; exact absurd hk (by decide)
  have e : mzI k = fun i => if i = 7 then -ic 1 else ic 0 := by
    funext i
    unfold mzI
    rw [if_neg h0, if_neg h1, if_neg (by omega), if_pos hk]
  show (Sum.inr (3, [.int (mzI k 0), .int (mzI k 1), .int (mzI k 2), .int (mzI k 3), .int (mzI k 4), .int (mzI k 5), .int (mzI k 6), .int (mzI k 7)]) : sC) = _
  rw [e]
  rfl
theorem wF_S (hb : isS b) {o : Nat} (ho : o < 23) : wF n0 vj (b + o) = zK n0 b 12 3 6 o := by
  have hk := kd_S hb ho
  have hlt : 0 < b ∧ b + o < 256 := by
    rcases hb with rfl | rfl | ⟨r, hr, rfl⟩ <;> omega
  have hz : kS o ≠ 5 ∧ kS o ≠ 6 → mzI (b + o) = fun _ => ic 0 := fun h => mzI_0 (by omega) (by omega) (fun q => h.1 (hk.symm.trans q.2)) (fun q => h.2 (hk.symm.trans q))
  have hp : ∀ i, mzP n0 vj (b + o) i = b + o + (4 + i) := fun i => by
    unfold mzP
    rw [if_neg (by omega), if_neg (by omega), if_neg (by omega)]
  unfold wF
  rw [if_neg (by omega), hk]
  rcases (by omega : o = 0 ∨ o = 1 ∨ o = 2 ∨ o = 3 ∨ o = 4 ∨ (5 ≤ o ∧ o < 17) ∨ (17 ≤ o ∧ o % 2 = 1) ∨ (17 ≤ o ∧ ¬ o % 2 = 1)) with rfl | rfl | rfl | rfl | rfl | ⟨h1, h2⟩ | ⟨h1, h2⟩ | ⟨h1, h2⟩
  · have hz := hz (by decide)
    show (Sum.inr (6, [.ref (n0 + (b + 0 + 1)), .int (mzI (b + 0) 1), .int (mzI (b + 0) 2), .ref (n0 + (b + 0 + 2)), .ref (n0 + (b + 0 + 3)), .ref (n0 + (b + 0 + 4)), .int (mzI (b + 0) 6), .long 0, .long 0]) : sC) = _
    rw [hz]
    rfl
  · show (Sum.inl (.object "RepairBarrows$Job", (12, .inr (.inr (.inr (.inr (fun i => if i < 12 then some (n0 + mzP n0 vj (b + 1) i) else none)))))) : sC) = Sum.inl (.object "RepairBarrows$Job", (12, .inr (.inr (.inr (.inr (fun t => if t < 12 then some (n0 + (b + (5 + t))) else none))))))
    have e : (fun i => if i < 12 then some (n0 + mzP n0 vj (b + 1) i) else none) = (fun t => if t < 12 then some (n0 + (b + (5 + t))) else none : Nat → Option Nat) := by
      funext t
      rw [hp t, show b + 1 + (4 + t) = b + (5 + t) by omega]
    rw [e]
  · show (Sum.inl (.object "RepairBarrows$Barrow", (3, .inr (.inr (.inr (.inr (fun i => if i < 3 then some (n0 + (b + 2 + (15 + 2 * i))) else none)))))) : sC) = Sum.inl (.object "RepairBarrows$Barrow", (3, .inr (.inr (.inr (.inr (fun t => if t < 3 then some (n0 + (b + (17 + 2 * t))) else none))))))
    have e : (fun i => if i < 3 then some (n0 + (b + 2 + (15 + 2 * i))) else none) = (fun t => if t < 3 then some (n0 + (b + (17 + 2 * t))) else none : Nat → Option Nat) := by
      funext t
      rw [show b + 2 + (15 + 2 * t) = b + (17 + 2 * t) by omega]
    rw [e]
  · have hz := hz (by decide)
    show (Sum.inl (.int, (4, .inl (mzI (b + 3)))) : sC) = _
    rw [hz]
    rfl
  · have e : mzI (b + 4) = fun t => if t < 6 then -ic 1 else ic 0 := by
      funext t
      unfold mzI
      rw [if_neg (by omega), if_neg (by omega), if_pos ⟨by omega, hk⟩]
    show (Sum.inl (.int, (6, .inl (mzI (b + 4)))) : sC) = _
    rw [e]
    rfl
  · have e6 : kS o = 6 := by
      unfold kS
      rw [if_neg (by omega), if_neg (by omega), if_neg (by omega), if_neg (by omega), if_neg (by omega), if_pos (by omega)]
    rw [e6, zK_job h1 h2]
    exact mz_job (by omega) (hk.trans e6)
  · have e7 : kS o = 7 := by
      unfold kS
      rw [if_neg (by omega), if_neg (by omega), if_neg (by omega), if_neg (by omega), if_neg (by omega), if_neg (by omega), if_pos h2]
    have hz := hz (by rw [e7]; decide)
    obtain ⟨t, rfl⟩ : ∃ t, o = 17 + 2 * t := ⟨(o - 17) / 2, by omega⟩
    rw [e7, zK_bar]
    show (Sum.inr (0, [.int (mzI (b + (17 + 2 * t)) 0), .int (mzI (b + (17 + 2 * t)) 1), .int (mzI (b + (17 + 2 * t)) 2), .int (mzI (b + (17 + 2 * t)) 3), .ref (n0 + (b + (17 + 2 * t) + 1))]) : sC) = _
    rw [hz, show b + (17 + 2 * t) + 1 = b + (17 + 2 * t + 1) by omega]
  · have e4 : kS o = 4 := by
      unfold kS
      rw [if_neg (by omega), if_neg (by omega), if_neg (by omega), if_neg (by omega), if_neg (by omega), if_neg (by omega), if_neg h2]
    have hz := hz (by rw [e4]; decide)
    obtain ⟨t, rfl⟩ : ∃ t, o = 17 + 2 * t + 1 := ⟨(o - 18) / 2, by omega⟩
    rw [e4, zK_par]
    show (Sum.inl (.int, (4, .inl (mzI (b + (17 + 2 * t + 1))))) : sC) = _
    rw [hz]
theorem wF_z {k n c : Nat} (hk : kd k = c) (h0 : k ≠ 0) (h1 : k ≠ 292) (h2 : 256 ≤ k) (h3 : k ≠ 291) (h4 : kd k ≠ 6) (hc : ∀ m, clK n0 m k c = .inl (.int, (n, .inl (ri m k)))) : wF n0 vj k = zA n := by
  unfold wF
  rw [if_neg h3, hk, hc, mz_i, mzI_0 h0 h1 (by omega) h4]
  rfl
theorem wF_o {k c : Nat} (hk : kd k = c) (h3 : k ≠ 291) : wF n0 vj k = clK n0 (mz n0 vj) k c := by
  unfold wF
  rw [if_neg h3, hk]
theorem wF_W : isW n0 vj (wF n0 vj) := by
  refine ⟨wF_o (c := 0) rfl (by decide), fun o ho => wF_S (Or.inl rfl) ho, fun o ho => wF_S (Or.inr (Or.inl rfl)) ho, ⟨wF_o (c := 8) rfl (by decide), wF_o (c := 9) rfl (by decide), fun i hi o ho => wF_S (Or.inr (Or.inr ⟨i, hi, rfl⟩)) ho⟩, ⟨wF_o (c := 10) rfl (by decide), wF_o (c := 11) rfl (by decide), ?_, fun t ht => ?_, fun t ht => ?_⟩, ⟨wF_o (c := 13) rfl (by decide), ?_, wF_o (c := 15) rfl (by decide), fun i hi => ⟨?_, ?_⟩⟩, ?_, if_pos rfl⟩
  · rw [wF_o (c := 12) rfl (by decide)]
    show (Sum.inl (.boolean, (6, .inl (mzI 258))) : sC) = _
    rw [mzI_0 (by decide) (by decide) (by decide) (by decide)]
  · refine wF_z (c := 5) ?_ (by omega) (by omega) (by omega) (by omega) ?_ (fun m => rfl)
    all_goals (rcases (by omega : t = 0 ∨ t = 1 ∨ t = 2 ∨ t = 3) with rfl | rfl | rfl | rfl <;> decide)
  · rw [wF_o (k := 263 + t) (c := 6) (by rcases (by omega : t = 0 ∨ t = 1 ∨ t = 2 ∨ t = 3 ∨ t = 4 ∨ t = 5) with rfl | rfl | rfl | rfl | rfl | rfl <;> rfl) (by omega)]
    exact mz_job (by omega) (by rcases (by omega : t = 0 ∨ t = 1 ∨ t = 2 ∨ t = 3 ∨ t = 4 ∨ t = 5) with rfl | rfl | rfl | rfl | rfl | rfl <;> rfl)
  · rw [wF_o (c := 14) rfl (by decide)]
    show (Sum.inl (.char, (60, .inl (mzI 270))) : sC) = _
    rw [mzI_0 (by decide) (by decide) (by decide) (by decide)]
  · rw [wF_o (k := 272 + 2 * i) (c := 16) (by rcases (by omega : i = 0 ∨ i = 1 ∨ i = 2 ∨ i = 3 ∨ i = 4 ∨ i = 5 ∨ i = 6 ∨ i = 7 ∨ i = 8) with rfl | rfl | rfl | rfl | rfl | rfl | rfl | rfl | rfl <;> rfl) (by omega)]
    show (Sum.inr (1, [.ref (mzP n0 vj (272 + 2 * i) 0), .ref (n0 + (272 + 2 * i + 1))]) : sC) = _
    unfold mzP
    rw [if_neg (by omega), if_pos (by omega)]
  · exact wF_z (c := 5) (by rcases (by omega : i = 0 ∨ i = 1 ∨ i = 2 ∨ i = 3 ∨ i = 4 ∨ i = 5 ∨ i = 6 ∨ i = 7 ∨ i = 8) with rfl | rfl | rfl | rfl | rfl | rfl | rfl | rfl | rfl <;> rfl) (by omega) (by omega) (by omega) (by omega) (by rcases (by omega : i = 0 ∨ i = 1 ∨ i = 2 ∨ i = 3 ∨ i = 4 ∨ i = 5 ∨ i = 6 ∨ i = 7 ∨ i = 8) with rfl | rfl | rfl | rfl | rfl | rfl | rfl | rfl | rfl <;> decide) (fun m => rfl)
  · rw [wF_o (c := 17) rfl (by decide)]
    show (Sum.inr (9, [.ref (mzP n0 vj 290 0), .int (mzI 290 1), .int (mzI 290 2), .int (mzI 290 3)]) : sC) = _
    rw [mzI_0 (by decide) (by decide) (by decide) (by decide)]
    rfl
theorem wF_M : isM n0 (wF n0 vj) := by
  refine ⟨wF_o (c := 18) rfl (by decide), ?_, ?_, ?_, ?_, ?_, ?_, ?_, ?_, ?_, ?_, wF_o (c := 25) rfl (by decide), wF_o (c := 26) rfl (by decide)⟩
  · exact wF_z (c := 19) rfl (by decide) (by decide) (by decide) (by decide) (by decide) (fun m => rfl)
  · exact wF_z (c := 19) rfl (by decide) (by decide) (by decide) (by decide) (by decide) (fun m => rfl)
  · exact wF_z (c := 19) rfl (by decide) (by decide) (by decide) (by decide) (by decide) (fun m => rfl)
  · exact wF_z (c := 20) rfl (by decide) (by decide) (by decide) (by decide) (by decide) (fun m => rfl)
  · exact wF_z (c := 5) rfl (by decide) (by decide) (by decide) (by decide) (by decide) (fun m => rfl)
  · exact wF_z (c := 5) rfl (by decide) (by decide) (by decide) (by decide) (by decide) (fun m => rfl)
  · exact wF_z (c := 21) rfl (by decide) (by decide) (by decide) (by decide) (by decide) (fun m => rfl)
  · exact wF_z (c := 22) rfl (by decide) (by decide) (by decide) (by decide) (by decide) (fun m => rfl)
  · exact wF_z (c := 23) rfl (by decide) (by decide) (by decide) (by decide) (by decide) (fun m => rfl)
  · exact wF_z (c := 24) rfl (by decide) (by decide) (by decide) (by decide) (by decide) (fun m => rfl)
theorem kd_99 : ∀ k, k < 305 → kd k = 99 → k = 291 := by decide +kernel
theorem bk_hp : bk G n0 305 (wF n0 vj) = hp n0 (hset G (n0 + 291) byZ) (mz n0 vj) := by
  funext q
  by_cases h : n0 ≤ q
  · obtain ⟨k, rfl⟩ : ∃ k, q = n0 + k := ⟨q - n0, by omega⟩
    by_cases hk : k < 305
    · rw [bk_at hk]
      by_cases h9 : k = 291
      · subst h9
        unfold hp
        rw [Nat.add_sub_cancel_left, if_neg (fun y => y.2 rfl)]
        unfold hset wF
        rw [if_pos rfl, if_pos rfl]
      · have hd : kd k ≠ 99 := by
          intro hd
          exact h9 (kd_99 k hk hd)
        rw [hp_at rfl hd, wF_o rfl h9]
    · unfold bk hp
      rw [Nat.add_sub_cancel_left, if_neg (by omega), if_neg (fun y => y.2 (kd_hi (by omega)))]
      unfold hset
      rw [if_neg (by omega)]
  · unfold bk hp hset
    rw [if_neg (by omega), if_neg (by omega), if_neg (by omega)]
end K6
