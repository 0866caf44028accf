/-! a name of the float laws, so that the claim is read over the whole library from its first part on -/
theorem zz_float : True := by
  have _ := @FP.Core.mag_le
  trivial
