/-! the two readers: arguments and signs; expanded by px.py out of p12.src -/
def rI (t : Nat → Int32) (l c ch o : Nat) (s : rS) : rS := if ch = 35 then opN t l c 3 o s else if ch = 37 then opN t l c 1 o s else if ch = 63 then opK t l c o s else opE t l ch s
def slF (w kn : Nat) : Nat := if w = 5 then (if kn = 1 then 2 else if kn = 2 then 1 else kn) else kn
def rF (t : Nat → Int32) (l c w : Nat) : List Nat → Nat → rS → rS
  | [], _, s => s
  | ch :: cs, kn, s => rF t l c w cs (if isA ch then kn + 1 else kn) (rI t l c ch (slF w kn) s)
def cnL : List Nat → Nat
  | [] => 0
  | ch :: cs => (if isA ch then 1 else 0) + cnL cs
def AL (w c : Nat) (a b : Nat → Int32) : List Nat → Nat → Prop
  | [], _ => True
  | ch :: cs, kn => if isA ch then ((if ch = 63 then a kn = kI (b (6 * c + slF w kn)) ∧ (¬ b (6 * c + slF w kn) < ic 97 ∧ b (6 * c + slF w kn) < ic 101) else a kn = b (6 * c + slF w kn) ∧ isN (a kn) 999) ∧ AL w c a b cs (kn + 1)) else AL w c a b cs kn
abbrev tlL (w : Nat) : List Nat := (shL w).drop (wlF w)
theorem tb4a : ∀ w, w < 11 → (tlL w).all (fun c => decide (c < 128)) = true := by decide +kernel
theorem tb4b : ∀ w, w < 11 → cnL (tlL w) ≤ 6 := by decide +kernel
theorem tb4c : ∀ w, w < 11 → (tlL w).length = lnF w - wlF w := by decide +kernel
theorem tb4d : ∀ w, w < 11 → 6 ≤ lnF w := by decide +kernel
theorem tb4 (w : Nat) (hw : w < 11) : (∀ ch ∈ tlL w, ch < 128) ∧ cnL (tlL w) ≤ 6 ∧ (tlL w).length = lnF w - wlF w ∧ 6 ≤ lnF w := ⟨fun ch hc => of_decide_eq_true (List.all_eq_true.mp (tb4a w hw) ch hc), tb4b w hw, tb4c w hw, tb4d w hw⟩
theorem slF_inj {w x y : Nat} (h : slF w x = slF w y) : x = y := by
  unfold slF at h
  by_cases h5 : w = 5
  · rw [if_pos h5, if_pos h5] at h
    repeat' split at h
    all_goals omega
  · rw [if_neg h5, if_neg h5] at h
    exact h
theorem slF_6 {w x : Nat} (h : x < 6) : slF w x < 6 := by
  unfold slF
  repeat' split
  all_goals omega
section P12
variable {t : Nat → Int32} {l p c : Nat}
theorem rF_nil {w kn : Nat} {s : rS} : rF t l c w [] kn s = s := rfl
theorem rF_35 {w kn : Nat} {cs : List Nat} {s : rS} : rF t l c w (35 :: cs) kn s = rF t l c w cs (kn + 1) (opN t l c 3 (slF w kn) s) := rfl
theorem rF_37 {w kn : Nat} {cs : List Nat} {s : rS} : rF t l c w (37 :: cs) kn s = rF t l c w cs (kn + 1) (opN t l c 1 (slF w kn) s) := rfl
theorem rF_63 {w kn : Nat} {cs : List Nat} {s : rS} : rF t l c w (63 :: cs) kn s = rF t l c w cs (kn + 1) (opK t l c (slF w kn) s) := rfl
theorem rF_32 {w kn : Nat} {cs : List Nat} {s : rS} : rF t l c w (32 :: cs) kn s = rF t l c w cs kn (opE t l 32 s) := rfl
theorem rF_44 {w kn : Nat} {cs : List Nat} {s : rS} : rF t l c w (44 :: cs) kn s = rF t l c w cs kn (opE t l 44 s) := rfl
theorem rF_62 {w kn : Nat} {cs : List Nat} {s : rS} : rF t l c w (62 :: cs) kn s = rF t l c w cs kn (opE t l 62 s) := rfl
theorem rF_64 {w kn : Nat} {cs : List Nat} {s : rS} : rF t l c w (64 :: cs) kn s = rF t l c w cs kn (opE t l 64 s) := rfl
theorem slF_n {w kn : Nat} (h : w ≠ 5) : slF w kn = kn := if_neg h
theorem slF_5 : slF 5 0 = 0 ∧ slF 5 1 = 2 ∧ slF 5 2 = 1 := by decide
theorem rd_0 (s : rS) : rdW t l c 0 (opE t l 32 s) = rF t l c 0 (tlL 0) 0 s := by
  rw [show tlL 0 = [32, 35, 44, 35, 32, 63, 37, 32, 37, 64, 35] from by decide]
  unfold rdW
  simp only [rF_nil, rF_35, rF_37, rF_63, rF_32, rF_44, rF_62, rF_64]
  generalize opN t l c = fN
  generalize opE t l = fE
  generalize opK t l c = fK
  rfl
theorem rd_1 (s : rS) : rdW t l c 1 (opE t l 32 s) = rF t l c 1 (tlL 1) 0 s := by
  rw [show tlL 1 = [32, 35] from by decide]
  unfold rdW
  simp only [rF_nil, rF_35, rF_37, rF_63, rF_32, rF_44, rF_62, rF_64]
  generalize opN t l c = fN
  generalize opE t l = fE
  generalize opK t l c = fK
  rfl
theorem rd_2 (s : rS) : rdW t l c 2 (opE t l 32 s) = rF t l c 2 (tlL 2) 0 s := by
  rw [show tlL 2 = [32, 35, 62, 37] from by decide]
  unfold rdW
  simp only [rF_nil, rF_35, rF_37, rF_63, rF_32, rF_44, rF_62, rF_64]
  generalize opN t l c = fN
  generalize opE t l = fE
  generalize opK t l c = fK
  rfl
theorem rd_3 (s : rS) : rdW t l c 3 (opE t l 32 s) = rF t l c 3 (tlL 3) 0 s := by
  rw [show tlL 3 = [32, 35] from by decide]
  unfold rdW
  simp only [rF_nil, rF_35, rF_37, rF_63, rF_32, rF_44, rF_62, rF_64]
  generalize opN t l c = fN
  generalize opE t l = fE
  generalize opK t l c = fK
  rfl
theorem rd_4 (s : rS) : rdW t l c 4 (opE t l 32 s) = rF t l c 4 (tlL 4) 0 s := by
  rw [show tlL 4 = [32, 63, 35] from by decide]
  unfold rdW
  simp only [rF_nil, rF_35, rF_37, rF_63, rF_32, rF_44, rF_62, rF_64]
  generalize opN t l c = fN
  generalize opE t l = fE
  generalize opK t l c = fK
  rfl
theorem rd_5 (s : rS) : rdW t l c 5 (opE t l 32 s) = rF t l c 5 (tlL 5) 0 s := by
  rw [show tlL 5 = [32, 37, 63, 35] from by decide]
  unfold rdW
  simp only [rF_nil, rF_35, rF_37, rF_63, rF_32, rF_44, rF_62, rF_64]
  generalize opN t l c = fN
  generalize opE t l = fE
  generalize opK t l c = fK
  rfl
theorem rd_6 (s : rS) : rdW t l c 6 (opE t l 32 s) = rF t l c 6 (tlL 6) 0 s := by
  rw [show tlL 6 = [32, 37, 37] from by decide]
  unfold rdW
  simp only [rF_nil, rF_35, rF_37, rF_63, rF_32, rF_44, rF_62, rF_64]
  generalize opN t l c = fN
  generalize opE t l = fE
  generalize opK t l c = fK
  rfl
theorem rd_7 (s : rS) : rdW t l c 7 (opE t l 32 s) = rF t l c 7 (tlL 7) 0 s := by
  rw [show tlL 7 = [32, 37, 37] from by decide]
  unfold rdW
  simp only [rF_nil, rF_35, rF_37, rF_63, rF_32, rF_44, rF_62, rF_64]
  generalize opN t l c = fN
  generalize opE t l = fE
  generalize opK t l c = fK
  rfl
theorem rd_8 (s : rS) : rdW t l c 8 (opE t l 32 s) = rF t l c 8 (tlL 8) 0 s := by
  rw [show tlL 8 = [32, 37, 32, 35] from by decide]
  unfold rdW
  simp only [rF_nil, rF_35, rF_37, rF_63, rF_32, rF_44, rF_62, rF_64]
  generalize opN t l c = fN
  generalize opE t l = fE
  generalize opK t l c = fK
  rfl
theorem rd_9 (s : rS) : rdW t l c 9 (opE t l 32 s) = rF t l c 9 (tlL 9) 0 s := by
  rw [show tlL 9 = [32, 37] from by decide]
  unfold rdW
  simp only [rF_nil, rF_35, rF_37, rF_63, rF_32, rF_44, rF_62, rF_64]
  generalize opN t l c = fN
  generalize opE t l = fE
  generalize opK t l c = fK
  rfl
theorem rd_10 (s : rS) : rdW t l c 10 (opE t l 32 s) = rF t l c 10 (tlL 10) 0 s := by
  rw [show tlL 10 = [32, 37, 32, 35] from by decide]
  unfold rdW
  rw [if_neg (by decide), if_neg (by decide), if_neg (by decide), if_neg (by decide), if_neg (by decide), if_neg (by decide), if_neg (by decide), if_neg (by decide), if_neg (by decide), if_neg (by decide)]
  simp only [rF_nil, rF_35, rF_37, rF_63, rF_32, rF_44, rF_62, rF_64]
  generalize opN t l c = fN
  generalize opE t l = fE
  generalize opK t l c = fK
  rfl
theorem rd_rF {w : Nat} (hw : w < 11) (s : rS) : rdW t l c w (opE t l 32 s) = rF t l c w (tlL w) 0 s := by
  rcases (by omega : w = 0 ∨ w = 1 ∨ w = 2 ∨ w = 3 ∨ w = 4 ∨ w = 5 ∨ w = 6 ∨ w = 7 ∨ w = 8 ∨ w = 9 ∨ w = 10) with rfl | rfl | rfl | rfl | rfl | rfl | rfl | rfl | rfl | rfl | rfl
  · exact rd_0 s
  · exact rd_1 s
  · exact rd_2 s
  · exact rd_3 s
  · exact rd_4 s
  · exact rd_5 s
  · exact rd_6 s
  · exact rd_7 s
  · exact rd_8 s
  · exact rd_9 s
  · exact rd_10 s
theorem mk_t : mkF t l p true = -ic 1 := if_neg (fun z => by cases z.1)
theorem dg_m1 : ¬ dgP (-ic 1) := fun z => z.1 (by decide)
theorem nuF_s (b : Bool) (f p : Nat) (v : Int32) : nuF t l b (f + 1) p v = if dgP (mkF t l p b) then nuF t l b f (p + 1) (ic 10 * v + t p - ic 48) else (v, p) := rfl
theorem nuF_t (n p : Nat) (v : Int32) : nuF t l true n p v = (v, p) := by
  cases n with
  | zero => rfl
  | succ n => rw [nuF_s, mk_t, if_neg dg_m1]
theorem rI_w {ch o : Nat} {s : rS} (h : s.2.2 = true) : (rI t l c ch o s).2 = s.2 := by
  obtain ⟨b, p, f⟩ := s
  dsimp only at h
  subst h
  unfold rI
  split
  · show ((nuF t l (nuB t l p true) 3 p (ic 0)).2, nuB t l p true) = (p, true)
    rw [show nuB t l p true = true from rfl, nuF_t]
  · split
    · show ((nuF t l (nuB t l p true) 1 p (ic 0)).2, nuB t l p true) = (p, true)
      rw [show nuB t l p true = true from rfl, nuF_t]
    · split
      · rfl
      · rfl
theorem rF_w {w : Nat} : ∀ (cs : List Nat) (kn : Nat) (s : rS), s.2.2 = true → (rF t l c w cs kn s).2 = s.2 := by
  intro cs
  induction cs with
  | nil => intro kn s _; rfl
  | cons ch cs ih =>
    intro kn s h
    have h1 := rI_w (t := t) (l := l) (c := c) (ch := ch) (o := slF w kn) h
    show (rF t l c w cs _ (rI t l c ch (slF w kn) s)).2 = s.2
    rw [ih _ _ (by rw [h1]; exact h), h1]
theorem dg_isD : dgP (mkF t l p false) ↔ isD t l p := by
  unfold mkF
  by_cases h : p < l
  · rw [if_pos ⟨rfl, h⟩]
    exact ⟨fun z => ⟨h, z⟩, fun z => z.2⟩
  · rw [if_neg (fun z => h z.2)]
    exact ⟨fun z => absurd z dg_m1, fun z => absurd z.1 h⟩
theorem isD_v (h : isD t l p) : ∃ d, d < 10 ∧ t p - ic 48 = ic d := by
  obtain ⟨x, h1, h2, h3⟩ := rng2 (x := t p) (a := 48) (n := 58) (by decide) (by decide) h.2.1 (by rw [← le_lt (a := 57) (by decide)]; exact h.2.2)
  exact ⟨x - 48, by omega, by rw [h3, ic_sub h1]⟩
theorem asb (a b c : Int32) : a + b - c = a + (b - c) := by rw [Int32.sub_eq_add_neg, Int32.sub_eq_add_neg, Int32.add_assoc]
theorem v1_eq (x : Int32) : ic 10 * ic 0 + x - ic 48 = x - ic 48 := by
  rw [show (ic 10 * ic 0 : Int32) = 0 from by decide, Int32.zero_add]
theorem nb_f (h : isD t l p) : nuB t l p false = false := by
  unfold nuB
  rw [decide_eq_true (dg_isD.mpr h)]
  rfl
theorem nb_t (h : ¬ isD t l p) : nuB t l p false = true := by
  unfold nuB
  rw [decide_eq_false (fun z => h (dg_isD.mp z))]
  rfl
theorem u35 {o : Nat} {b : Nat → Int32} (h : isD t l p) : opN t l c 3 o (b, p, false) = (upd b (6 * c + o) (rdNv t l p), rdNp t l p, false) ∧ isN (rdNv t l p) 999 ∧ p + 1 ≤ rdNp t l p := by
  have e : nuF t l false 3 p (ic 0) = (rdNv t l p, rdNp t l p) := by
    rw [nuF_s, if_pos (dg_isD.mpr h), nuF_s, v1_eq]
    unfold rdNv rdNp
    rw [if_pos h, if_pos h]
    by_cases h1 : isD t l (p + 1)
    · rw [if_pos (dg_isD.mpr h1), if_pos h1, if_pos h1, nuF_s]
      by_cases h2 : isD t l (p + 2)
      · rw [if_pos (dg_isD.mpr h2), if_pos h2, if_pos h2, asb (ic 10 * (ic 10 * (t p - ic 48) + t (p + 1) - ic 48)), asb]
        rfl
      · rw [if_neg (fun z => h2 (dg_isD.mp z)), if_neg h2, if_neg h2, asb]
    · rw [if_neg (fun z => h1 (dg_isD.mp z)), if_neg h1, if_neg h1]
  refine ⟨?_, ?_, ?_⟩
  · show (upd b (6 * c + o) (nuF t l (nuB t l p false) 3 p (ic 0)).1, (nuF t l (nuB t l p false) 3 p (ic 0)).2, nuB t l p false) = _
    rw [nb_f h, e]
  · obtain ⟨d0, a0, a1⟩ := isD_v h
    unfold rdNv
    rw [if_pos h, a1]
    by_cases h1 : isD t l (p + 1)
    · obtain ⟨d1, b0, b1⟩ := isD_v h1
      rw [if_pos h1, b1, ic_mul, ic_add]
      by_cases h2 : isD t l (p + 2)
      · obtain ⟨d2, c0, c1⟩ := isD_v h2
        rw [if_pos h2, c1, ic_mul, ic_add]
        exact ⟨_, by omega, rfl⟩
      · rw [if_neg h2]
        exact ⟨_, by omega, rfl⟩
    · rw [if_neg h1]
      exact ⟨_, by omega, rfl⟩
  · unfold rdNp
    rw [if_pos h]
    repeat' split
    all_goals omega
theorem u37 {o : Nat} {b : Nat → Int32} (h : isD t l p) : opN t l c 1 o (b, p, false) = (upd b (6 * c + o) (t p - ic 48), p + 1, false) ∧ isN (t p - ic 48) 9 := by
  refine ⟨?_, ?_⟩
  · show (upd b (6 * c + o) (nuF t l (nuB t l p false) 1 p (ic 0)).1, (nuF t l (nuB t l p false) 1 p (ic 0)).2, nuB t l p false) = _
    rw [nb_f h, nuF_s, if_pos (dg_isD.mpr h), v1_eq]
    rfl
  · obtain ⟨d, h1, h2⟩ := isD_v h
    exact ⟨d, by omega, h2⟩
theorem uNo {n o : Nat} {b : Nat → Int32} (h : ¬ isD t l p) : (opN t l c n o (b, p, false)).2 = (p, true) := by
  show ((nuF t l (nuB t l p false) n p (ic 0)).2, nuB t l p false) = (p, true)
  rw [nb_t h, nuF_t]
theorem u63 {o : Nat} {b : Nat → Int32} (h : p < l) (hk : (¬ t p < ic 97 ∧ t p < ic 101)) : opK t l c o (b, p, false) = (upd b (6 * c + o) (t p), p + 1, false) := by
  have e : mkF t l p false = t p := if_pos ⟨rfl, h⟩
  have e2 : kmB t l p false = false := by
    unfold kmB
    rw [e, decide_eq_true hk]
    rfl
  show (upd b (6 * c + o) (mkF t l p false), if kmB t l p false then p else p + 1, kmB t l p false) = _
  rw [e, e2]
  rfl
theorem u63n {o : Nat} {b : Nat → Int32} (h : ¬ (p < l ∧ (¬ t p < ic 97 ∧ t p < ic 101))) : (opK t l c o (b, p, false)).2 = (p, true) := by
  have e2 : kmB t l p false = true := by
    unfold kmB mkF
    by_cases g : p < l
    · rw [if_pos ⟨rfl, g⟩, decide_eq_false (fun z => h ⟨g, z⟩)]
      rfl
    · rw [if_neg (fun z => g z.2)]
      decide
  show (if kmB t l p false then p else p + 1, kmB t l p false) = (p, true)
  rw [e2]
  rfl
theorem uE {ch : Nat} {b : Nat → Int32} (hch : ch < 128) : (p < l ∧ t p = ic ch → opE t l ch (b, p, false) = (b, p + 1, false)) ∧ (¬ (p < l ∧ t p = ic ch) → (opE t l ch (b, p, false)) = (b, p, true)) := by
  refine ⟨fun h => ?_, fun h => ?_⟩
  · have e2 : exB t l p false (ic ch) = false := by
      unfold exB mkF
      rw [if_pos ⟨rfl, h.1⟩, decide_eq_true h.2]
      rfl
    show (b, if exB t l p false (ic ch) then p else p + 1, exB t l p false (ic ch)) = _
    rw [e2]
    rfl
  · have e2 : exB t l p false (ic ch) = true := by
      unfold exB mkF
      by_cases g : p < l
      · rw [if_pos ⟨rfl, g⟩, decide_eq_false (fun z => h ⟨g, z⟩)]
        rfl
      · rw [if_neg (fun z => g z.2), decide_eq_false (fun z => by
          have := icM
          rw [z, ic_lt (by omega) (by omega)] at this
          exact absurd this (by simp))]
        rfl
    show (b, if exB t l p false (ic ch) then p else p + 1, exB t l p false (ic ch)) = _
    rw [e2]
    rfl
theorem nm1 {v : Int32} {B : Nat} (h : isN v B) (hB : B < 1000) : ¬ v = -ic 1 := fun z => by
  obtain ⟨x, h1, h2⟩ := h
  have := icM
  rw [← z, h2, ic_lt (by omega) (by omega)] at this
  exact absurd this (by simp)
theorem rI_o {ch o y : Nat} {s : rS} (h : isA ch → y ≠ 6 * c + o) : (rI t l c ch o s).1 y = s.1 y := by
  unfold rI
  by_cases h1 : ch = 35
  · rw [if_pos h1]
    exact upd_n _ _ (h (Or.inl h1))
  · rw [if_neg h1]
    by_cases h2 : ch = 37
    · rw [if_pos h2]
      exact upd_n _ _ (h (Or.inr (Or.inl h2)))
    · rw [if_neg h2]
      by_cases h3 : ch = 63
      · rw [if_pos h3]
        exact upd_n _ _ (h (Or.inr (Or.inr h3)))
      · rw [if_neg h3]
        rfl
theorem rF_o {w y : Nat} : ∀ (cs : List Nat) (kn : Nat) (s : rS), kn + cnL cs ≤ 6 → (∀ x, kn ≤ x → x < 6 → y ≠ 6 * c + slF w x) → (rF t l c w cs kn s).1 y = s.1 y := by
  intro cs
  induction cs with
  | nil => intro kn s _ _; rfl
  | cons ch cs ih =>
    intro kn s hk h
    have hcn : cnL (ch :: cs) = (if isA ch then 1 else 0) + cnL cs := rfl
    show (rF t l c w cs (if isA ch then kn + 1 else kn) (rI t l c ch (slF w kn) s)).1 y = s.1 y
    by_cases hA : isA ch
    · rw [if_pos hA] at hcn ⊢
      rw [ih _ _ (by omega) (fun x h1 h2 => h x (by omega) h2), rI_o (fun _ => h kn (Nat.le_refl _) (by omega))]
    · rw [if_neg hA] at hcn ⊢
      rw [ih _ _ (by omega) h, rI_o (fun z => absurd z hA)]
def dOK (w c : Nat) (cs : List Nat) (kn p : Nat) (a : Nat → Int32) (X : Bool × Nat × (Nat → Int32)) (Y : rS) : Prop :=
  (X.1 = true → Y.2 = (X.2.1, false) ∧ p + cs.length ≤ X.2.1 ∧ AL w c X.2.2 Y.1 cs kn) ∧ (X.1 = false → Y.2 = (X.2.1, true) ∧ p ≤ X.2.1) ∧ ∀ x, x < kn → X.2.2 x = a x
theorem dOK_good {w kn p p1 ch : Nat} {cs : List Nat} {a : Nat → Int32} {v vb : Int32} {X : Bool × Nat × (Nat → Int32)} {Y : rS} (hA : isA ch) (h : dOK w c cs (kn + 1) p1 (upd a kn v) X Y) (hp1 : p + 1 ≤ p1) (hy : Y.1 (6 * c + slF w kn) = vb) (hr : if ch = 63 then v = kI vb ∧ (¬ vb < ic 97 ∧ vb < ic 101) else v = vb ∧ isN v 999) : dOK w c (ch :: cs) kn p a X Y := by
  obtain ⟨i1, i2, i3⟩ := h
  have hAL : ∀ a b, AL w c a b (ch :: cs) kn = if isA ch then ((if ch = 63 then a kn = kI (b (6 * c + slF w kn)) ∧ (¬ b (6 * c + slF w kn) < ic 97 ∧ b (6 * c + slF w kn) < ic 101) else a kn = b (6 * c + slF w kn) ∧ isN (a kn) 999) ∧ AL w c a b cs (kn + 1)) else AL w c a b cs kn := fun _ _ => rfl
  refine ⟨fun g => ?_, fun g => ⟨(i2 g).1, by have := (i2 g).2; omega⟩, fun x hx => by rw [i3 x (by omega), upd_n _ _ (by omega)]⟩
  obtain ⟨j1, j2, j3⟩ := i1 g
  refine ⟨j1, by rw [List.length_cons]; omega, ?_⟩
  rw [hAL, if_pos hA, hy, i3 kn (by omega), upd_s]
  exact ⟨hr, j3⟩
theorem dOK_bad {w kn p q ch : Nat} {cs : List Nat} {a : Nat → Int32} {Y : rS} (hY : Y.2 = (q, true)) (hq : p ≤ q) : dOK w c (ch :: cs) kn p a (false, q, a) Y := ⟨fun g => (by cases g), fun _ => ⟨hY, hq⟩, fun _ _ => rfl⟩
theorem dOK_lit {w kn p ch : Nat} {cs : List Nat} {a : Nat → Int32} {X : Bool × Nat × (Nat → Int32)} {Y : rS} (hA : ¬ isA ch) (h : dOK w c cs kn (p + 1) a X Y) : dOK w c (ch :: cs) kn p a X Y := by
  obtain ⟨i1, i2, i3⟩ := h
  have hAL : ∀ a b, AL w c a b (ch :: cs) kn = if isA ch then ((if ch = 63 then a kn = kI (b (6 * c + slF w kn)) ∧ (¬ b (6 * c + slF w kn) < ic 97 ∧ b (6 * c + slF w kn) < ic 101) else a kn = b (6 * c + slF w kn) ∧ isN (a kn) 999) ∧ AL w c a b cs (kn + 1)) else AL w c a b cs kn := fun _ _ => rfl
  refine ⟨fun g => ?_, fun g => ⟨(i2 g).1, by have := (i2 g).2; omega⟩, i3⟩
  obtain ⟨j1, j2, j3⟩ := i1 g
  refine ⟨j1, by rw [List.length_cons]; omega, ?_⟩
  rw [hAL, if_neg hA]
  exact j3
theorem sh_rF {w : Nat} : ∀ (cs : List Nat) (i kn p : Nat) (a b : Nat → Int32), cs = (shL w).drop i → (∀ ch ∈ cs, ch < 128) → kn + cnL cs ≤ 6 → dOK w c cs kn p a (rdSh t l (shF w) cs.length i kn p a) (rF t l c w cs kn (b, p, false)) := by
  intro cs
  induction cs with
  | nil => intro i kn p a b _ _ _; exact ⟨fun _ => ⟨rfl, Nat.le_refl _, trivial⟩, fun h => (by cases h), fun _ _ => rfl⟩
  | cons ch cs ih =>
    intro i kn p a b hcs h128 hkn
    have hch : shF w i = ch := by
      have := congrArg (fun q => q[0]?) hcs
      simp at this
      unfold shF
      rw [List.getD_eq_getElem?_getD, ← this]
      rfl
    have hcs2 : cs = (shL w).drop (i + 1) := by
      have := congrArg List.tail hcs
      rw [List.tail_cons, List.tail_drop] at this
      exact this
    have hc128 := h128 ch List.mem_cons_self
    have h128' : ∀ q ∈ cs, q < 128 := fun q hq => h128 q (List.mem_cons_of_mem _ hq)
    have hcn : cnL (ch :: cs) = (if isA ch then 1 else 0) + cnL cs := rfl
    have hrF : ∀ s, rF t l c w (ch :: cs) kn s = rF t l c w cs (if isA ch then kn + 1 else kn) (rI t l c ch (slF w kn) s) := fun _ => rfl
    rw [List.length_cons, rdSh_s, hch, hrF]
    by_cases hA : isA ch
    · rw [if_pos hA] at hcn ⊢
      rw [if_pos hA]
      have good : ∀ (v vb : Int32) (p1 : Nat), rdAv t l ch p = v → rdAp t l ch p = p1 → ¬ v = -ic 1 → p + 1 ≤ p1 → rI t l c ch (slF w kn) (b, p, false) = (upd b (6 * c + slF w kn) vb, p1, false) → (if ch = 63 then v = kI vb ∧ (¬ vb < ic 97 ∧ vb < ic 101) else v = vb ∧ isN v 999) → dOK w c (ch :: cs) kn p a (if rdAv t l ch p = -ic 1 then (false, rdAp t l ch p, a) else rdSh t l (shF w) cs.length (i + 1) (kn + 1) (rdAp t l ch p) (upd a kn (rdAv t l ch p))) (rF t l c w cs (kn + 1) (rI t l c ch (slF w kn) (b, p, false))) := by
        intro v vb p1 e1 e2 e3 e4 e6 e7
        rw [e1, e2, if_neg e3, e6]
        refine dOK_good hA (ih (i + 1) (kn + 1) p1 (upd a kn v) (upd b (6 * c + slF w kn) vb) hcs2 h128' (by omega)) e4 ?_ e7
        rw [rF_o cs (kn + 1) _ (by omega) (fun x h1 h2 z => by have := slF_inj (w := w) (x := kn) (y := x) (by omega); omega)]
        exact upd_s _ _ _
      have bad : rdAv t l ch p = -ic 1 → rdAp t l ch p = p → (rI t l c ch (slF w kn) (b, p, false)).2 = (p, true) → dOK w c (ch :: cs) kn p a (if rdAv t l ch p = -ic 1 then (false, rdAp t l ch p, a) else rdSh t l (shF w) cs.length (i + 1) (kn + 1) (rdAp t l ch p) (upd a kn (rdAv t l ch p))) (rF t l c w cs (kn + 1) (rI t l c ch (slF w kn) (b, p, false))) := fun e1 e2 e3 => by
        rw [if_pos e1, e2]
        exact dOK_bad (by rw [rF_w _ _ _ (by rw [e3]), e3]) (Nat.le_refl _)
      by_cases h1 : ch = 35
      · subst h1
        have hI : rI t l c 35 (slF w kn) (b, p, false) = opN t l c 3 (slF w kn) (b, p, false) := rfl
        by_cases g : isD t l p
        · obtain ⟨e1, e2, e3⟩ := u35 (c := c) (o := slF w kn) (b := b) g
          exact good _ _ _ rfl rfl (nm1 e2 (by decide)) e3 (hI.trans e1) (by rw [if_neg (by decide)]; exact ⟨rfl, e2⟩)
        · exact bad (if_neg g) (if_neg g) (by rw [hI]; exact uNo g)
      · by_cases h2 : ch = 37
        · subst h2
          have hI : rI t l c 37 (slF w kn) (b, p, false) = opN t l c 1 (slF w kn) (b, p, false) := rfl
          by_cases g : isD t l p
          · obtain ⟨e1, e2⟩ := u37 (c := c) (o := slF w kn) (b := b) g
            exact good (t p - ic 48) _ (p + 1) (if_pos g) (if_pos g) (nm1 e2 (by decide)) (Nat.le_refl _) (hI.trans e1) (by rw [if_neg (by decide)]; exact ⟨rfl, e2.mono (by decide)⟩)
          · exact bad (if_neg g) (if_neg g) (by rw [hI]; exact uNo g)
        · have h3 : ch = 63 := hA.elim (fun z => absurd z h1) (fun z => z.elim (fun z => absurd z h2) id)
          subst h3
          have hI : rI t l c 63 (slF w kn) (b, p, false) = opK t l c (slF w kn) (b, p, false) := rfl
          have hv : rdAv t l 63 p = rdK t l p := rfl
          have hpp : rdAp t l 63 p = rdKp t l p := rfl
          by_cases g : p < l ∧ (¬ t p < ic 97 ∧ t p < ic 101)
          · have e := u63 (t := t) (c := c) (o := slF w kn) (b := b) g.1 g.2
            have e1 : rdK t l p = kI (t p) := if_pos g.1
            obtain ⟨q, q1, q2, q3⟩ := rng2 (by decide) (by decide) g.2.1 g.2.2
            obtain ⟨j, rfl⟩ : ∃ j, q = 97 + j := ⟨q - 97, by omega⟩
            have e2 : kI (t p) = ic j := by rw [q3]; exact kI_ic (by omega)
            have e3 : ¬ kI (t p) = -ic 1 := nm1 (B := 4) ⟨j, by omega, e2⟩ (by decide)
            exact good (kI (t p)) (t p) (p + 1) (hv.trans e1) (by rw [hpp]; unfold rdKp; rw [e1, if_neg e3]) e3 (Nat.le_refl _) (hI.trans e) (by rw [if_pos rfl]; exact ⟨rfl, g.2⟩)
          · have e1 : rdK t l p = -ic 1 := by
              unfold rdK
              by_cases g2 : p < l
              · rw [if_pos g2]
                exact kI_no (fun z => g ⟨g2, z⟩)
              · rw [if_neg g2]
            exact bad (hv.trans e1) (by rw [hpp]; unfold rdKp; rw [if_pos e1]) (by rw [hI]; exact u63n g)
    · rw [if_neg hA] at hcn ⊢
      rw [if_neg hA]
      have hI : rI t l c ch (slF w kn) (b, p, false) = opE t l ch (b, p, false) := by
        unfold rI
        rw [if_neg (fun z => hA (Or.inl z)), if_neg (fun z => hA (Or.inr (Or.inl z))), if_neg (fun z => hA (Or.inr (Or.inr z)))]
      obtain ⟨e1, e2⟩ := uE (t := t) (l := l) (p := p) (b := b) hc128
      rw [hI]
      by_cases g : p < l ∧ t p = ic ch
      · rw [if_pos g, e1 g]
        exact dOK_lit hA (ih (i + 1) kn (p + 1) a b hcs2 h128' (by omega))
      · rw [if_neg g, e2 g]
        exact dOK_bad (by rw [rF_w _ _ _ rfl]) (Nat.le_refl _)
/-- one command -/
theorem pc_eq {a b : Nat → Int32} (hpl : p ≤ l) : ((rdCm t l lnF shF p 11 0 p a).1 = none → (cmS t l c (b, p, false)).2 = ((rdCm t l lnF shF p 11 0 p a).2.1, true)) ∧ (∀ w, (rdCm t l lnF shF p 11 0 p a).1 = some w → w < 11 ∧ (cmS t l c (b, p, false)).2 = ((rdCm t l lnF shF p 11 0 p a).2.1, false) ∧ (cmW t l (b, p, false)).1 = w ∧ p + 6 ≤ (rdCm t l lnF shF p 11 0 p a).2.1 ∧ AL w c (rdCm t l lnF shF p 11 0 p a).2.2 (cmS t l c (b, p, false)).1 (tlL w) 0) ∧ ∀ y, y < 6 * c ∨ 6 * c + 6 ≤ y → (cmS t l c (b, p, false)).1 y = b y := by
  have hcm := cm_all (t := t) (l := l) (p := p) (a := a) 11 0 0 rfl (by decide) (fun _ _ _ => Nat.zero_le _)
  rw [Nat.add_zero] at hcm
  rcases hcm with ⟨h1, h2⟩ | ⟨w, hw, hm, hwd, hok, hno⟩
  · have e : cmW t l (b, p, false) = (0, (b, (wdF t l p 11 0 0).2, true)) := by
      unfold cmW
      dsimp only
      rw [h1]
    have hS : cmS t l c (b, p, false) = rF t l c 0 (tlL 0) 0 (b, (wdF t l p 11 0 0).2, true) := by
      unfold cmS
      rw [e]
      exact rd_rF (w := 0) (by decide) _
    rw [hS, h2]
    refine ⟨fun _ => (by rw [rF_w _ _ _ rfl]), fun w hw => (by cases hw), fun y hy => rF_o (w := 0) (tlL 0) 0 _ (by decide) (fun x _ hx => by have := slF_6 (w := 0) hx; omega)⟩
  · have e : cmW t l (b, p, false) = (w, (b, p + wlF w, false)) := by
      unfold cmW
      dsimp only
      rw [hwd]
    have hS : cmS t l c (b, p, false) = rF t l c w (tlL w) 0 (b, p + wlF w, false) := by
      unfold cmS
      rw [e]
      exact rd_rF hw _
    obtain ⟨t1, t2, t3, t4⟩ := tb4 w hw
    have hD := sh_rF (t := t) (l := l) (c := c) (w := w) (tlL w) (wlF w) 0 (p + wlF w) a b rfl t1 (by omega)
    rw [t3] at hD
    obtain ⟨d1, d2, d3⟩ := hD
    have hwl := (tb1e w hw).2
    refine ⟨fun hn => ?_, fun w2 hs => ?_, fun y hy => by rw [hS]; exact rF_o _ _ _ (by omega) (fun x _ hx => by have := slF_6 (w := w) hx; omega)⟩
    · cases hX : (rsF t l w p a).1 with
      | true => rw [hok hX] at hn; cases hn
      | false =>
        obtain ⟨g1, g2⟩ := d2 hX
        rw [hno hX g2, hS]
        exact g1
    · cases hX : (rsF t l w p a).1 with
      | true =>
        obtain ⟨g1, g2, g3⟩ := d1 hX
        rw [hok hX] at hs ⊢
        have e2 : w = w2 := Option.some.inj hs
        subst e2
        rw [hS, e]
        exact ⟨hw, g1, rfl, by
          show p + 6 ≤ (rsF t l w p a).2.1
          unfold rsF
          rw [t3] at g2
          omega, g3⟩
      | false =>
        rw [hno hX (d2 hX).2] at hs
        cases hs
end P12
