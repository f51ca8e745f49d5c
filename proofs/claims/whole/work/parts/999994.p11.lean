/-! the two readers: shapes against words and arguments; expanded by px.py out of p11.src -/
def shL (w : Nat) : List Nat := if w = 0 then [106, 111, 98, 32, 35, 44, 35, 32, 63, 37, 32, 37, 64, 35] else if w = 1 then [99, 97, 110, 99, 101, 108, 32, 35] else if w = 2 then [103, 105, 118, 101, 32, 35, 62, 37] else if w = 3 then [116, 97, 107, 101, 32, 35] else if w = 4 then [115, 116, 111, 99, 107, 32, 63, 35] else if w = 5 then [108, 111, 97, 100, 32, 37, 63, 35] else if w = 6 then [98, 111, 114, 114, 111, 119, 32, 37, 37] else if w = 7 then [114, 101, 116, 117, 114, 110, 32, 37, 37] else if w = 8 then [102, 105, 120, 32, 37, 32, 35] else if w = 9 then [104, 111, 109, 101, 32, 37] else [114, 101, 115, 116, 32, 37, 32, 35]
def shF (w i : Nat) : Nat := (shL w).getD i 0
def lnF (w : Nat) : Nat := (shL w).length
def wlF (w : Nat) : Nat := if w = 0 then 3 else if w = 1 then 6 else if w = 2 then 4 else if w = 3 then 4 else if w = 4 then 5 else if w = 5 then 4 else if w = 6 then 6 else if w = 7 then 6 else if w = 8 then 3 else if w = 9 then 4 else 4
theorem tb1a : ∀ w, w < 11 → ∀ k, k < 7 → k < wlF w → spF w k = shF w k := by decide +kernel
theorem tb1b : ∀ w, w < 11 → ∀ k, k < 7 → k < wlF w → 0 < spF w k := by decide +kernel
theorem tb1c : ∀ w, w < 11 → ∀ k, k < 7 → k < wlF w → ¬ shF w k = 35 := by decide +kernel
theorem tb1c2 : ∀ w, w < 11 → ∀ k, k < 7 → k < wlF w → ¬ shF w k = 37 := by decide +kernel
theorem tb1c3 : ∀ w, w < 11 → ∀ k, k < 7 → k < wlF w → ¬ shF w k = 63 := by decide +kernel
theorem tb1d : ∀ w, w < 11 → ∀ k, k < 7 → wlF w ≤ k → spF w k = 0 := by decide +kernel
theorem tb1e : ∀ w, w < 11 → wlF w ≤ 6 ∧ wlF w < lnF w := by decide +kernel
theorem tb1 (w : Nat) (hw : w < 11) (k : Nat) (hk : k < 7) : (k < wlF w → spF w k = shF w k ∧ 0 < spF w k ∧ ¬ isA (shF w k)) ∧ (wlF w ≤ k → spF w k = 0) ∧ wlF w ≤ 6 ∧ wlF w < lnF w := ⟨fun h => ⟨tb1a w hw k hk h, tb1b w hw k hk h, fun z => z.elim (tb1c w hw k hk h) (fun z => z.elim (tb1c2 w hw k hk h) (tb1c3 w hw k hk h))⟩, tb1d w hw k hk, tb1e w hw⟩
theorem rdSh_s (t : Nat → Int32) (l : Nat) (f : Nat → Nat) (k i kn p : Nat) (a : Nat → Int32) : rdSh t l f (k + 1) i kn p a = if isA (f i) then (if rdAv t l (f i) p = -ic 1 then (false, rdAp t l (f i) p, a) else rdSh t l f k (i + 1) (kn + 1) (rdAp t l (f i) p) (upd a kn (rdAv t l (f i) p))) else if p < l ∧ t p = ic (f i) then rdSh t l f k (i + 1) kn (p + 1) a else (false, p, a) := rfl
theorem mtF_s (t : Nat → Int32) (l p w f k : Nat) : mtF t l p w (f + 1) k = if 0 < spF w k ∧ p + k < l ∧ t (p + k) = ic (spF w k) then mtF t l p w f (k + 1) else k := rfl
theorem wdF_s (t : Nat → Int32) (l p f w lo : Nat) : wdF t l p (f + 1) w lo = if spF w (mtF t l p w 6 0) = 0 then (some w, p + mtF t l p w 6 0) else wdF t l p f (w + 1) (if lo < mtF t l p w 6 0 then mtF t l p w 6 0 else lo) := rfl
theorem rdCm_s (t : Nat → Int32) (l : Nat) (ln : Nat → Nat) (sh : Nat → Nat → Nat) (p k j far : Nat) (a : Nat → Int32) : rdCm t l ln sh p (k + 1) j far a = if (rdSh t l (sh j) (ln j) 0 0 p a).1 then (some j, (rdSh t l (sh j) (ln j) 0 0 p a).2.1, (rdSh t l (sh j) (ln j) 0 0 p a).2.2) else rdCm t l ln sh p k (j + 1) (if far < (rdSh t l (sh j) (ln j) 0 0 p a).2.1 then (rdSh t l (sh j) (ln j) 0 0 p a).2.1 else far) (rdSh t l (sh j) (ln j) 0 0 p a).2.2 := rfl
theorem tb2 : ∀ w, w < 11 → ∀ j, j < 11 → w ≠ j → ∃ i, i < 7 ∧ i < wlF w ∧ i < wlF j ∧ spF w i ≠ spF j i := by decide +kernel
theorem tb3 : ∀ w, w < 11 → cntA (shF w) 0 (lnF w) ≤ 6 ∧ 6 ≤ lnF w := by decide +kernel
section P11
variable {t t2 : Nat → Int32} {l p c : Nat}
theorem mt_fix {w : Nat} (hw : w < 11) {a : Nat → Int32} : ∀ f k, k + f = 6 → k ≤ wlF w → rdSh t l (shF w) (lnF w - k) k 0 (p + k) a = if spF w (mtF t l p w f k) = 0 then rdSh t l (shF w) (lnF w - wlF w) (wlF w) 0 (p + wlF w) a else (false, p + mtF t l p w f k, a) := by
  intro f
  induction f with
  | zero =>
    intro k hk hkw
    have h := tb1 w hw k (by omega)
    have e : k = wlF w := by omega
    show _ = if spF w k = 0 then _ else _
    rw [if_pos (h.2.1 (by omega)), e]
  | succ f ih =>
    intro k hk hkw
    have h := tb1 w hw k (by omega)
    by_cases e : k = wlF w
    · have e2 : mtF t l p w (f + 1) k = k := by
        rw [mtF_s, if_neg (fun z => by have := h.2.1 (by omega); omega)]
      rw [e2, if_pos (h.2.1 (by omega)), e]
    · obtain ⟨h1, h2, h3⟩ := h.1 (by omega)
      obtain ⟨q, hq⟩ : ∃ q, lnF w - k = q + 1 := ⟨lnF w - k - 1, by omega⟩
      have hq2 : lnF w - (k + 1) = q := by omega
      rw [hq]
      rw [rdSh_s, mtF_s, if_neg h3]
      by_cases g : p + k < l ∧ t (p + k) = ic (spF w k)
      · have g' : p + k < l ∧ t (p + k) = ic (shF w k) := by rw [← h1]; exact g
        rw [if_pos g', if_pos (⟨h2, g⟩ : 0 < spF w k ∧ p + k < l ∧ t (p + k) = ic (spF w k)), ← hq2]
        exact ih (k + 1) (by omega) (by omega)
      · have g' : ¬ (p + k < l ∧ t (p + k) = ic (shF w k)) := by rw [← h1]; exact g
        have g2 : ¬ (0 < spF w k ∧ p + k < l ∧ t (p + k) = ic (spF w k)) := fun z => g z.2
        rw [if_neg g', if_neg g2, if_neg (by omega)]
theorem mt_run {w : Nat} : ∀ f k, ∀ i, k ≤ i → i < mtF t l p w f k → p + i < l ∧ t (p + i) = ic (spF w i) ∧ 0 < spF w i := by
  intro f
  induction f with
  | zero => intro k i h1 h2; exact absurd h2 (by show ¬ i < k; omega)
  | succ f ih =>
    intro k i h1 h2
    rw [mtF_s] at h2
    by_cases g : 0 < spF w k ∧ p + k < l ∧ t (p + k) = ic (spF w k)
    · rw [if_pos g] at h2
      by_cases e : i = k
      · subst e; exact ⟨g.2.1, g.2.2, g.1⟩
      · exact ih (k + 1) i (by omega) h2
    · rw [if_neg g] at h2
      omega
theorem mt_wl {w : Nat} (hw : w < 11) : mtF t l p w 6 0 ≤ wlF w ∧ (spF w (mtF t l p w 6 0) = 0 ↔ mtF t l p w 6 0 = wlF w) := by
  have h6 := (mtF_le t l p w 6 0).2
  have hle : mtF t l p w 6 0 ≤ wlF w := by
    by_cases g : wlF w < mtF t l p w 6 0
    · have h1 := (mt_run (t := t) (l := l) (p := p) (w := w) 6 0 (wlF w) (by omega) g).2.2
      have h2 := (tb1 w hw (wlF w) (by have := (tb1 w hw 0 (by omega)).2.2.1; omega)).2.1 (Nat.le_refl _)
      omega
    · omega
  have h := tb1 w hw (mtF t l p w 6 0) (by omega)
  refine ⟨hle, fun q => ?_, fun q => h.2.1 (by omega)⟩
  by_cases g : mtF t l p w 6 0 < wlF w
  · have := (h.1 g).2.1
    omega
  · omega
theorem sp_128 {w k : Nat} (hw : w < 11) (hk : k ≤ 6) : spF w k < 128 := spF_b w hw k hk
/-- one word alone fits -/
theorem mt_one {w j : Nat} (hw : w < 11) (hj : j < 11) (hne : w ≠ j) (h : mtF t l p w 6 0 = wlF w) : mtF t l p j 6 0 < wlF w ∧ mtF t l p j 6 0 < wlF j := by
  obtain ⟨i, i0, i1, i2, i3⟩ := tb2 w hw j hj hne
  have h1 := mt_run (t := t) (l := l) (p := p) (w := w) 6 0 i (by omega) (by omega)
  have hlt : ¬ i < mtF t l p j 6 0 := fun g => by
    have h2 := mt_run (t := t) (l := l) (p := p) (w := j) 6 0 i (by omega) g
    have e := h1.2.1.symm.trans h2.2.1
    have b1 := sp_128 hw (k := i) (by omega)
    have b2 := sp_128 hj (k := i) (by omega)
    rw [ic_eq (by omega) (by omega)] at e
    exact i3 e
  omega
/-- a shape at p: its word, then the rest of it -/
def rsF (t : Nat → Int32) (l w p : Nat) (a : Nat → Int32) : Bool × Nat × (Nat → Int32) := rdSh t l (shF w) (lnF w - wlF w) (wlF w) 0 (p + wlF w) a
theorem sh_no {w : Nat} (hw : w < 11) (h : mtF t l p w 6 0 ≠ wlF w) {a : Nat → Int32} : rdSh t l (shF w) (lnF w) 0 0 p a = (false, p + mtF t l p w 6 0, a) := by
  have := mt_fix (t := t) (l := l) (p := p) hw (a := a) 6 0 rfl (Nat.zero_le _)
  rw [if_neg (fun z => h ((mt_wl hw).2.mp z))] at this
  exact this
theorem sh_yes {w : Nat} (hw : w < 11) (h : mtF t l p w 6 0 = wlF w) {a : Nat → Int32} : rdSh t l (shF w) (lnF w) 0 0 p a = rsF t l w p a := by
  have := mt_fix (t := t) (l := l) (p := p) hw (a := a) 6 0 rfl (Nat.zero_le _)
  rw [if_pos ((mt_wl hw).2.mpr h)] at this
  exact this
theorem cm_end {q : Nat} {a : Nat → Int32} : ∀ k j, j + k ≤ 11 → (∀ i, j ≤ i → i < j + k → mtF t l p i 6 0 ≠ wlF i ∧ p + mtF t l p i 6 0 ≤ q) → rdCm t l lnF shF p k j q a = (none, q, a) := by
  intro k
  induction k with
  | zero => intro j _ _; rfl
  | succ k ih =>
    intro j hj h
    obtain ⟨h1, h2⟩ := h j (Nat.le_refl j) (by omega)
    rw [rdCm_s, sh_no (by omega) h1]
    dsimp only
    rw [if_neg (show ¬ (false = true) by decide), if_neg (by omega)]
    exact ih (j + 1) (by omega) (fun i g1 g2 => h i (by omega) (by omega))
theorem cm_all {a : Nat → Int32} : ∀ k j lo, j + k = 11 → lo ≤ 6 → (∀ w, w < 11 → mtF t l p w 6 0 = wlF w → lo ≤ wlF w) →
    ((wdF t l p k j lo).1 = none ∧ rdCm t l lnF shF p k j (p + lo) a = (none, (wdF t l p k j lo).2, a)) ∨ ∃ w, w < 11 ∧ mtF t l p w 6 0 = wlF w ∧ wdF t l p k j lo = (some w, p + wlF w) ∧ ((rsF t l w p a).1 = true → rdCm t l lnF shF p k j (p + lo) a = (some w, (rsF t l w p a).2.1, (rsF t l w p a).2.2)) ∧ ((rsF t l w p a).1 = false → p + wlF w ≤ (rsF t l w p a).2.1 → rdCm t l lnF shF p k j (p + lo) a = (none, (rsF t l w p a).2.1, (rsF t l w p a).2.2)) := by
  intro k
  induction k with
  | zero => intro j lo _ _ _; exact Or.inl ⟨rfl, rfl⟩
  | succ k ih =>
    intro j lo hj hlo h2
    have hj11 : j < 11 := by omega
    by_cases e : mtF t l p j 6 0 = wlF j
    · have h0 : spF j (mtF t l p j 6 0) = 0 := (mt_wl hj11).2.mpr e
      refine Or.inr ⟨j, hj11, e, ?_, ?_, ?_⟩
      · rw [wdF_s, if_pos h0, e]
      · intro g
        rw [rdCm_s, sh_yes hj11 e, if_pos g]
      · intro g g2
        rw [rdCm_s, sh_yes hj11 e, if_neg (by rw [g]; decide)]
        have hlo2 : lo ≤ wlF j := h2 j hj11 e
        have hfar : (if p + lo < (rsF t l j p a).2.1 then (rsF t l j p a).2.1 else p + lo) = (rsF t l j p a).2.1 := by
          by_cases g3 : p + lo < (rsF t l j p a).2.1
          · rw [if_pos g3]
          · rw [if_neg g3]; omega
        rw [hfar]
        exact cm_end k (j + 1) (by omega) (fun i g3 g4 => by
          have := mt_one hj11 (j := i) (by omega) (by omega) e
          exact ⟨by omega, by omega⟩)
    · have h0 : ¬ spF j (mtF t l p j 6 0) = 0 := fun z => e ((mt_wl hj11).2.mp z)
      have hm6 := (mtF_le t l p j 6 0).2
      rw [wdF_s, rdCm_s, if_neg h0, sh_no hj11 e]
      dsimp only
      rw [if_neg (show ¬ (false = true) by decide)]
      have hfar : (if p + lo < p + mtF t l p j 6 0 then p + mtF t l p j 6 0 else p + lo) = p + (if lo < mtF t l p j 6 0 then mtF t l p j 6 0 else lo) := by
        split <;> split <;> omega
      rw [hfar]
      refine ih (j + 1) (if lo < mtF t l p j 6 0 then mtF t l p j 6 0 else lo) (by omega) (by split <;> omega) (fun w hw hm => ?_)
      have g := mt_one hw (j := j) hj11 (fun z => e (z ▸ hm)) hm
      have := h2 w hw hm
      split <;> omega
end P11
