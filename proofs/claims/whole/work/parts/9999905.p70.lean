/-! orders: all of them in ascending order, two ways; expanded by px.py out of p70.src -/
def gl (l : List Nat) (i : Nat) : Nat := l.getD i 0
def nxA (c : Nat) : Nat → List Nat → List (List Nat)
  | 0, l => [l]
  | f + 1, l => match nxU (gl l) (gl l) c with
    | none => [l]
    | some v => l :: nxA c f ((List.range c).map v)
def dfL (c : Nat) : Nat → List Nat → List (List Nat)
  | 0, pre => [pre]
  | r + 1, pre => (List.range c).flatMap (fun i => if i ∈ pre then [] else dfL c r (pre ++ [i]))
theorem nx_df : ∀ c, c < 7 → nxA c 719 (List.range c) = dfL c c [] ∧ nxA c 720 (List.range c) = dfL c c [] ∧ (nxA c 720 (List.range c)).length ≤ 720 := by decide +kernel
