/-! names of the whole library, first: so a round on a new machine goes over the whole library from its first part on, and not after half an hour -/
theorem fp_wide : True := by
  have h1 := @FP.Core.toNat_l2d
  have h2 := @FP.Core.ddiv_out
  trivial
