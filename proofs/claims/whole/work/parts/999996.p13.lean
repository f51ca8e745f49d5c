/-! the two readers: programs; expanded by px.py out of p13.src -/
section P13
variable {t t1 t2 : Nat → Int32} {l p c : Nat}
theorem isD_c (h : ∀ q, q < l → t1 q = t2 q) {q : Nat} : isD t1 l q ↔ isD t2 l q := by
  constructor
  · intro g
    have e := h q g.1
    exact ⟨g.1, by rw [← e]; exact g.2.1, by rw [← e]; exact g.2.2⟩
  · intro g
    have e := h q g.1
    exact ⟨g.1, by rw [e]; exact g.2.1, by rw [e]; exact g.2.2⟩
theorem rdN_c (h : ∀ q, q < l → t1 q = t2 q) : rdNv t1 l p = rdNv t2 l p ∧ rdNp t1 l p = rdNp t2 l p := by
  unfold rdNv rdNp
  by_cases h0 : isD t2 l p
  · rw [if_pos h0, if_pos h0, if_pos ((isD_c h).mpr h0), if_pos ((isD_c h).mpr h0), h p h0.1]
    by_cases h1 : isD t2 l (p + 1)
    · rw [if_pos h1, if_pos h1, if_pos ((isD_c h).mpr h1), if_pos ((isD_c h).mpr h1), h (p + 1) h1.1]
      by_cases h2 : isD t2 l (p + 2)
      · rw [if_pos h2, if_pos h2, if_pos ((isD_c h).mpr h2), if_pos ((isD_c h).mpr h2), h (p + 2) h2.1]
        exact ⟨rfl, rfl⟩
      · rw [if_neg h2, if_neg h2, if_neg (fun z => h2 ((isD_c h).mp z)), if_neg (fun z => h2 ((isD_c h).mp z))]
        exact ⟨rfl, rfl⟩
    · rw [if_neg h1, if_neg h1, if_neg (fun z => h1 ((isD_c h).mp z)), if_neg (fun z => h1 ((isD_c h).mp z))]
      exact ⟨rfl, rfl⟩
  · rw [if_neg h0, if_neg h0, if_neg (fun z => h0 ((isD_c h).mp z)), if_neg (fun z => h0 ((isD_c h).mp z))]
    exact ⟨rfl, rfl⟩
theorem rdD_c (h : ∀ q, q < l → t1 q = t2 q) : rdD t1 l p = rdD t2 l p ∧ rdDp t1 l p = rdDp t2 l p := by
  unfold rdD rdDp
  by_cases h0 : isD t2 l p
  · rw [if_pos h0, if_pos h0, if_pos ((isD_c h).mpr h0), if_pos ((isD_c h).mpr h0), h p h0.1]
    exact ⟨rfl, rfl⟩
  · rw [if_neg h0, if_neg h0, if_neg (fun z => h0 ((isD_c h).mp z)), if_neg (fun z => h0 ((isD_c h).mp z))]
    exact ⟨rfl, rfl⟩
theorem rdK_c (h : ∀ q, q < l → t1 q = t2 q) : rdK t1 l p = rdK t2 l p ∧ rdKp t1 l p = rdKp t2 l p := by
  have e : rdK t1 l p = rdK t2 l p := by
    unfold rdK
    by_cases h0 : p < l
    · rw [if_pos h0, if_pos h0, h p h0]
    · rw [if_neg h0, if_neg h0]
  exact ⟨e, by unfold rdKp; rw [e]⟩
theorem rdA_c (h : ∀ q, q < l → t1 q = t2 q) (ch : Nat) : rdAv t1 l ch p = rdAv t2 l ch p ∧ rdAp t1 l ch p = rdAp t2 l ch p := by
  unfold rdAv rdAp
  rw [(rdN_c h).1, (rdN_c h).2, (rdD_c h).1, (rdD_c h).2, (rdK_c h).1, (rdK_c h).2]
  exact ⟨rfl, rfl⟩
theorem rdSh_c (h : ∀ q, q < l → t1 q = t2 q) {f : Nat → Nat} : ∀ (k i kn p : Nat) (a : Nat → Int32), rdSh t1 l f k i kn p a = rdSh t2 l f k i kn p a := by
  intro k
  induction k with
  | zero => intro i kn p a; rfl
  | succ k ih =>
    intro i kn p a
    rw [rdSh_s, rdSh_s, (rdA_c h (f i)).1, (rdA_c h (f i)).2]
    by_cases hA : isA (f i)
    · rw [if_pos hA, if_pos hA, ih]
    · rw [if_neg hA, if_neg hA]
      by_cases g : p < l ∧ t2 p = ic (f i)
      · have g1 : p < l ∧ t1 p = ic (f i) := ⟨g.1, (h p g.1).trans g.2⟩
        rw [if_pos g, if_pos g1, ih]
      · have g1 : ¬ (p < l ∧ t1 p = ic (f i)) := fun z => g ⟨z.1, (h p z.1).symm.trans z.2⟩
        rw [if_neg g, if_neg g1]
theorem rdCm_c (h : ∀ q, q < l → t1 q = t2 q) {ln : Nat → Nat} {sh : Nat → Nat → Nat} : ∀ (k j far : Nat) (a : Nat → Int32), rdCm t1 l ln sh p k j far a = rdCm t2 l ln sh p k j far a := by
  intro k
  induction k with
  | zero => intro j far a; rfl
  | succ k ih =>
    intro j far a
    rw [rdCm_s, rdCm_s, rdSh_c h, ih]
theorem AL_congr {w c : Nat} {a a2 b b2 : Nat → Int32} (ha : ∀ x, x < 6 → a2 x = a x) (hb : ∀ y, 6 * c ≤ y → y < 6 * c + 6 → b2 y = b y) : ∀ (cs : List Nat) (kn : Nat), kn + cnL cs ≤ 6 → AL w c a b cs kn → AL w c a2 b2 cs kn := by
  intro cs
  induction cs with
  | nil => intro _ _ _; trivial
  | cons ch cs ih =>
    intro kn hk h
    have hAL : ∀ a b, AL w c a b (ch :: cs) kn = if isA ch then ((if ch = 63 then a kn = kI (b (6 * c + slF w kn)) ∧ (¬ b (6 * c + slF w kn) < ic 97 ∧ b (6 * c + slF w kn) < ic 101) else a kn = b (6 * c + slF w kn) ∧ isN (a kn) 999) ∧ AL w c a b cs (kn + 1)) else AL w c a b cs kn := fun _ _ => rfl
    have hcn : cnL (ch :: cs) = (if isA ch then 1 else 0) + cnL cs := rfl
    rw [hAL] at h ⊢
    by_cases hA : isA ch
    · rw [if_pos hA] at h hcn ⊢
      have := slF_6 (w := w) (x := kn) (by omega)
      rw [ha kn (by omega), hb _ (by omega) (by omega)]
      exact ⟨h.1, ih (kn + 1) (by omega) h.2⟩
    · rw [if_neg hA] at h hcn ⊢
      exact ih kn (by omega) h
def stR (t : Nat → Int32) (l : Nat) (mR : mm) (c : Nat) (s : rS) : mm × Nat × rS := (if (cmS t l c s).2.2 then mR else cmB mR c (cmW t l s).1, if (cmS t l c s).2.2 then c else c + 1, cmS t l c s)
theorem paF_s (f : Nat) (m : mm) (c : Nat) (s : rS) : paF t l (f + 1) m c s = if mkF t l s.2.1 s.2.2 = ic 59 then paF t l f (stR t l m c (s.1, s.2.1 + 1, s.2.2)).1 (stR t l m c (s.1, s.2.1 + 1, s.2.2)).2.1 (stR t l m c (s.1, s.2.1 + 1, s.2.2)).2.2 else (m, c, s) := rfl
def FC (i : Nat) (mC mX : mm) : Prop := (∀ x, x ≠ 269 → (x < 272 + 2 * i + 1 ∨ 290 ≤ x) → ri mX x = ri mC x) ∧ (∀ j, j ≠ 2 → j ≠ 4 → ri mX 269 j = ri mC 269 j) ∧ (∀ x, (x < 272 + 2 * i ∨ 290 ≤ x) → rp mX x = rp mC x) ∧ rl mX = rl mC ∧ rd mX = rd mC
def FR (i : Nat) (mR mY : mm) : Prop := (∀ x, x ≠ 292 → x ≠ 301 → ri mY x = ri mR x) ∧ (∀ j, j ≠ 21 → ri mY 292 j = ri mR 292 j) ∧ (∀ j, j < i → ri mY 301 j = ri mR 301 j) ∧ rp mY = rp mR ∧ rl mY = rl mR ∧ rd mY = rd mR
theorem FC_one {i : Nat} (hi : i < 9) {mC : mm} {vv : Nat → Nat} {r : Option Nat × Nat × (Nat → Int32)} : FC i mC (cmM2 mC (272 + 2 * i) vv r) ∧ ri (cmM2 mC (272 + 2 * i) vv r) (272 + 2 * i + 1) = r.2.2 ∧ ∀ w, r.1 = some w → rp (cmM2 mC (272 + 2 * i) vv r) (272 + 2 * i) 0 = vv w := by
  have h1 : ri (cmM2 mC (272 + 2 * i) vv r) = ri (stM mC (272 + 2 * i + 1) r.2.2 r.2.1) := cm_f
  refine ⟨⟨fun x hx hr => ?_, fun j h2 h4 => ?_, fun x hx => ?_, ?_, ?_⟩, ?_, fun w hw => ?_⟩
  · rw [h1]
    show ri (wi (wa mC (272 + 2 * i + 1) r.2.2) 269 2 (ic r.2.1)) x = _
    rw [ri_wn _ _ _ hx, ri_an _ _ (by omega)]
  · rw [h1]
    show ri (wi (wa mC (272 + 2 * i + 1) r.2.2) 269 2 (ic r.2.1)) 269 j = _
    rw [ri_ws, upd_n _ _ h2, ri_an _ _ (by omega)]
  · obtain ⟨o, q, a⟩ := r
    cases o with
    | none => rfl
    | some w =>
      funext j
      show rp (wp (stM mC (272 + 2 * i + 1) a q) (272 + 2 * i) 0 (vv w)) x j = _
      rw [rp_wp, if_neg (fun z => by omega)]
      rfl
  · obtain ⟨o, q, a⟩ := r
    cases o <;> rfl
  · obtain ⟨o, q, a⟩ := r
    cases o <;> rfl
  · rw [h1]
    show ri (wi (wa mC (272 + 2 * i + 1) r.2.2) 269 2 (ic r.2.1)) (272 + 2 * i + 1) = _
    rw [ri_wn _ _ _ (by omega), ri_as]
  · obtain ⟨o, q, a⟩ := r
    dsimp only at hw
    subst hw
    show rp (wp (stM mC (272 + 2 * i + 1) a q) (272 + 2 * i) 0 (vv w)) (272 + 2 * i) 0 = _
    rw [rp_wp, if_pos ⟨rfl, rfl⟩]
theorem FC.trans {i j : Nat} (hij : i ≤ j) {a b c : mm} (h1 : FC i a b) (h2 : FC j b c) : FC i a c := ⟨fun x hx hr => (h2.1 x hx (by omega)).trans (h1.1 x hx hr), fun x h3 h4 => (h2.2.1 x h3 h4).trans (h1.2.1 x h3 h4), fun x hx => (h2.2.2.1 x (by omega)).trans (h1.2.2.1 x hx), h2.2.2.2.1.trans h1.2.2.2.1, h2.2.2.2.2.trans h1.2.2.2.2⟩
theorem FC_269 {i j : Nat} {v : Int32} (hj : j = 2 ∨ j = 4) {m : mm} : FC i m (wi m 269 j v) := ⟨fun x hx _ => ri_wn _ _ _ hx, fun x h2 h4 => by rw [ri_ws, upd_n _ _ (by omega)], fun _ _ => rfl, rfl, rfl⟩
theorem FC_up {i j : Nat} (h : i ≤ j) {a b : mm} (hF : FC j a b) : FC i a b := ⟨fun x hx hr => hF.1 x hx (by omega), hF.2.1, fun x hx => hF.2.2.1 x (by omega), hF.2.2.2⟩
theorem FR.trans {i j : Nat} (hij : i ≤ j) {a b c : mm} (h1 : FR i a b) (h2 : FR j b c) : FR i a c := ⟨fun x h3 h4 => (h2.1 x h3 h4).trans (h1.1 x h3 h4), fun x h3 => (h2.2.1 x h3).trans (h1.2.1 x h3), fun x hx => (h2.2.2.1 x (by omega)).trans (h1.2.2.1 x hx), h2.2.2.2.1.trans h1.2.2.2.1, h2.2.2.2.2.1.trans h1.2.2.2.2.1, h2.2.2.2.2.2.trans h1.2.2.2.2.2⟩
theorem FR_r {i : Nat} {a : mm} : FR i a a := ⟨fun _ _ _ => rfl, fun _ _ => rfl, fun _ _ => rfl, rfl, rfl, rfl⟩
theorem FR_cmB {i k : Nat} {a : mm} : FR i a (cmB a i k) ∧ ri (cmB a i k) 301 i = ic k ∧ ri (cmB a i k) 292 21 = ic (i + 1) := by
  unfold cmB
  refine ⟨⟨fun x h1 h2 => by rw [ri_wn _ _ _ h1, ri_wn _ _ _ h2], fun j hj => by rw [ri_ws, upd_n _ _ hj, ri_wn _ _ _ (by decide)], fun j hj => by rw [ri_wn _ _ _ (by decide), ri_ws, upd_n _ _ (by omega)], rfl, rfl, rfl⟩, by rw [ri_wn _ _ _ (by decide), ri_ws, upd_s], by rw [ri_ws, upd_s]⟩
theorem rdPr_s (vv ln : Nat → Nat) (sh : Nat → Nat → Nat) (k i : Nat) (m : mm) : rdPr vv ln sh l (k + 1) i p m = match rdCm (ri m 270) l ln sh p 11 0 p (ri m (272 + 2 * i + 1)) with
    | (none, q, a) => (ic q, cmM2 m (272 + 2 * i) vv (none, q, a))
    | (some j, q, a) => if q < l then (if ri m 270 q = ic 59 then rdPr vv ln sh l k (i + 1) (q + 1) (atM (wi (cmM2 m (272 + 2 * i) vv (some j, q, a)) 269 4 (ic (i + 1))) (q + 1)) else (ic q, wi (cmM2 m (272 + 2 * i) vv (some j, q, a)) 269 4 (ic (i + 1)))) else (-ic 1, wi (cmM2 m (272 + 2 * i) vv (some j, q, a)) 269 4 (ic (i + 1))) := rfl
/-- one command that both have read -/
def okC (vv : Nat → Nat) (j : Nat) (mX mY : mm) (b : Nat → Int32) : Prop := ∃ w, w < 11 ∧ rp mX (272 + 2 * j) 0 = vv w ∧ ri mY 301 j = ic w ∧ AL w j (ri mX (272 + 2 * j + 1)) b (tlL w) 0
theorem pr_eq (h60 : l ≤ 60) {vv : Nat → Nat} : ∀ (k i p : Nat) (mC mR : mm) (b : Nat → Int32) (f : Nat), i + k = 9 → 7 * i ≤ p → p ≤ l → l < p + f → (∀ q, q < l → ri mC 270 q = t q) →
    ∀ X, rdPr vv lnF shF l k i p mC = X → ∀ Y, paF t l f (stR t l mR i (b, p, false)).1 (stR t l mR i (b, p, false)).2.1 (stR t l mR i (b, p, false)).2.2 = Y →
    FC i mC X.2 ∧ FR i mR Y.1 ∧ (∀ y, y < 6 * i → Y.2.2.1 y = b y) ∧ ((X.1 = -ic 1 ∧ Y.2.2.2 = (l, false) ∧ ∃ cnt, i < cnt ∧ (cnt ≤ 9 ∧ cnt ≤ l) ∧ ri X.2 269 4 = ic cnt ∧ ri Y.1 292 21 = ic cnt ∧ ∀ j, i ≤ j → j < cnt → okC vv j X.2 Y.1 Y.2.2.1) ∨ (∃ e, e ≤ l ∧ X.1 = ic e ∧ Y.2.2.2.1 = e ∧ (Y.2.2.2.2 || decide (e < l)) = true)) := by
  intro k
  induction k with
  | zero => intro i p mC mR b f hik h7 hpl; omega
  | succ k ih =>
    intro i p mC mR b f hik h7 hpl hf ht X hX Y hY
    rw [rdPr_s, rdCm_c ht] at hX
    obtain ⟨e1, e2, e3⟩ := pc_eq (t := t) (c := i) (a := ri mC (272 + 2 * i + 1)) (b := b) hpl
    have hle := rdCm_le (t := t) (ln := lnF) (sh := shF) hpl 11 0 p (ri mC (272 + 2 * i + 1)) (Nat.le_refl p) hpl
    generalize rdCm t l lnF shF p 11 0 p (ri mC (272 + 2 * i + 1)) = R at hX e1 e2 hle
    obtain ⟨o, q, a⟩ := R
    dsimp only at e1 e2 hle
    cases o with
    | none =>
      have hS := e1 rfl
      have hst : stR t l mR i (b, p, false) = (mR, i, cmS t l i (b, p, false)) := by
        unfold stR
        rw [hS]
        rfl
      have hpa : paF t l f (stR t l mR i (b, p, false)).1 (stR t l mR i (b, p, false)).2.1 (stR t l mR i (b, p, false)).2.2 = (mR, i, cmS t l i (b, p, false)) := by
        rw [hst]
        cases f with
        | zero => rfl
        | succ f =>
          rw [paF_s]
          dsimp only
          rw [hS]
          dsimp only
          rw [mk_t, if_neg (by decide)]
      rw [hpa] at hY
      dsimp only at hX
      subst hX hY
      refine ⟨(FC_one (i := i) (by omega) (mC := mC) (vv := vv) (r := (none, q, a))).1, FR_r, fun y hy => e3 y (Or.inl hy), Or.inr ⟨q, hle.2, rfl, by rw [hS], by rw [hS]; rfl⟩⟩
    | some w =>
      obtain ⟨hw, hS, hcw, h6, hal⟩ := e2 w rfl
      have hst : stR t l mR i (b, p, false) = (cmB mR i w, i + 1, cmS t l i (b, p, false)) := by
        unfold stR
        rw [hS, hcw]
        rfl
      rw [hst] at hY
      dsimp only at hX hY
      obtain ⟨f, rfl⟩ : ∃ g, f = g + 1 := ⟨f - 1, by omega⟩
      rw [paF_s, hS] at hY
      dsimp only at hY
      have hC1 := FC_one (i := i) (by omega) (mC := mC) (vv := vv) (r := (some w, q, a))
      have hR1 := FR_cmB (i := i) (k := w) (a := mR)
      have hC2 : FC i mC (wi (cmM2 mC (272 + 2 * i) vv (some w, q, a)) 269 4 (ic (i + 1))) := FC.trans (Nat.le_refl i) hC1.1 (FC_269 (Or.inr rfl))
      have hok : ∀ mX mY b2, FC (i + 1) (wi (cmM2 mC (272 + 2 * i) vv (some w, q, a)) 269 4 (ic (i + 1))) mX → FR (i + 1) (cmB mR i w) mY → (∀ y, y < 6 * (i + 1) → b2 y = (cmS t l i (b, p, false)).1 y) → okC vv i mX mY b2 := fun mX mY b2 g1 g2 g3 => by
        refine ⟨w, hw, ?_, ?_, ?_⟩
        · rw [g1.2.2.1 _ (by omega)]
          exact hC1.2.2 w rfl
        · rw [g2.2.2.1 i (by omega)]
          exact hR1.2.1
        · refine AL_congr (a := a) (b := (cmS t l i (b, p, false)).1) (fun x hx => ?_) (fun y h1 h2 => g3 y (by omega)) _ _ (by have := (tb4 w hw).2.1; omega) hal
          rw [g1.1 _ (by omega) (by omega), ri_wn _ _ _ (by omega), hC1.2.1]
      by_cases hq : q < l
      · rw [if_pos hq, ht q hq] at hX
        have hmk : mkF t l q false = t q := if_pos ⟨rfl, hq⟩
        rw [hmk] at hY
        by_cases h59 : t q = ic 59
        · rw [if_pos h59] at hX hY
          have hFa : FC (i + 1) (wi (cmM2 mC (272 + 2 * i) vv (some w, q, a)) 269 4 (ic (i + 1))) (atM (wi (cmM2 mC (272 + 2 * i) vv (some w, q, a)) 269 4 (ic (i + 1))) (q + 1)) := FC_269 (Or.inl rfl)
          have := ih (i + 1) (q + 1) _ (cmB mR i w) (cmS t l i (b, p, false)).1 f (by omega) (by omega) (by omega) (by omega) (fun x hx => by
            rw [hFa.1 270 (by decide) (by omega), ri_wn _ _ _ (by decide), hC1.1.1 270 (by decide) (by omega)]
            exact ht x hx) X hX Y hY
          obtain ⟨i1, i2, i3, i4⟩ := this
          have i1' := FC.trans (Nat.le_refl (i + 1)) hFa i1
          refine ⟨FC.trans (by omega) hC2 i1', FR.trans (by omega) hR1.1 i2, fun y hy => ?_, ?_⟩
          · rw [i3 y (by omega)]
            exact e3 y (Or.inl hy)
          · rcases i4 with ⟨g1, g2, cnt, g3, g4, g5, g6, g7⟩ | g
            · refine Or.inl ⟨g1, g2, cnt, by omega, g4, g5, g6, fun j hj1 hj2 => ?_⟩
              by_cases e : j = i
              · rw [e]
                exact hok _ _ _ i1' i2 i3
              · exact g7 j (by omega) hj2
            · exact Or.inr g
        · rw [if_neg h59] at hX hY
          subst hX hY
          exact ⟨hC2, hR1.1, fun y hy => e3 y (Or.inl hy), Or.inr ⟨q, by omega, rfl, by rw [hS], by rw [hS]; simp [hq]⟩⟩
      · rw [if_neg hq] at hX
        have hql : q = l := by omega
        have hmk : mkF t l q false = -ic 1 := if_neg (fun z => hq z.2)
        rw [hmk, if_neg (by decide)] at hY
        subst hX hY
        refine ⟨hC2, hR1.1, fun y hy => e3 y (Or.inl hy), Or.inl ⟨rfl, by rw [hS, hql], i + 1, by omega, ⟨by omega, by omega⟩, by rw [ri_ws, upd_s], hR1.2.2, fun j h1 h2 => ?_⟩⟩
        have e : j = i := by omega
        rw [e]
        exact hok _ _ _ ⟨fun _ _ _ => rfl, fun _ _ _ => rfl, fun _ _ => rfl, rfl, rfl⟩ FR_r (fun _ _ => rfl)
end P13
