/-- a name of the whole library, so that every round is read over it: see NOTES -/
theorem zw_wide : True := by
  have _h := @Jvm.FP.Core.tails_pos
  trivial
