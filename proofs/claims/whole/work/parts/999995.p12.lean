/-! the two readers: arguments and signs; expanded by px.py out of p12.src -/
def rI (t : Nat → Int32) (l c ch o : Nat) (s : rS) : rS := if ch = 35 then opN t l c 3 o s else if ch = 37 then opN t l c 1 o s else if ch = 63 then opK t l c o s else opE t l ch s
def slF (w kn : Nat) : Nat := if w = 5 then (if kn = 1 then 2 else if kn = 2 then 1 else kn) else kn
def rF (t : Nat → Int32) (l c w : Nat) : List Nat → Nat → rS → rS
  | [], _, s => s
  | ch :: cs, kn, s => rF t l c w cs (if isA ch then kn + 1 else kn) (rI t l c ch (slF w kn) s)
def cnL : List Nat → Nat
  | [] => 0
  | ch :: cs => (if isA ch then 1 else 0) + cnL cs
def AL (w c : Nat) (a b : Nat → Int32) : List Nat → Nat → Prop
  | [], _ => True
  | ch :: cs, kn => if isA ch then ((if ch = 63 then a kn = kI (b (6 * c + slF w kn)) ∧ inR (b (6 * c + slF w kn)) 97 101 else a kn = b (6 * c + slF w kn) ∧ isN (a kn) 999) ∧ AL w c a b cs (kn + 1)) else AL w c a b cs kn
abbrev tlL (w : Nat) : List Nat := (shL w).drop (wlF w)
theorem tb4a : ∀ w, w < 11 → (tlL w).all (fun c => decide (c < 128)) = true := by decide +kernel
theorem tb4b : ∀ w, w < 11 → cnL (tlL w) ≤ 6 := by decide +kernel
theorem tb4c : ∀ w, w < 11 → (tlL w).length = lnF w - wlF w := by decide +kernel
theorem tb4d : ∀ w, w < 11 → 6 ≤ lnF w := by decide +kernel
theorem tb4 (w : Nat) (hw : w < 11) : (∀ ch ∈ tlL w, ch < 128) ∧ cnL (tlL w) ≤ 6 ∧ (tlL w).length = lnF w - wlF w ∧ 6 ≤ lnF w := ⟨fun ch hc => of_decide_eq_true (List.all_eq_true.mp (tb4a w hw) ch hc), tb4b w hw, tb4c w hw, tb4d w hw⟩
theorem slF_inj {w x y : Nat} (h : slF w x = slF w y) : x = y := by
  unfold slF at h
  by_cases h5 : w = 5
  · rw [if_pos h5, if_pos h5] at h
    repeat' split at h
    all_goals omega
  · rw [if_neg h5, if_neg h5] at h
    exact h
theorem slF_6 {w x : Nat} (h : x < 6) : slF w x < 6 := by
  unfold slF
  repeat' split
  all_goals omega
