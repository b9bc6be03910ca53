/-! this claim is read over the whole library (17e stands on a row of it): said at once, so that nothing is compiled twice -/
theorem am_wd : True := by
  have h := @Jvm.Stand.multianewarray2F
  trivial
