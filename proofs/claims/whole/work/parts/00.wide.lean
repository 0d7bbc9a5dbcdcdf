/-- the printed rows of exceptions (92v) use two rows of the library's rest by their fields: named here whole, so that a round reads the whole library from its first part on -/
theorem wd_0 : True := by
  have h1 := @Jvm.Stand.thenCaughtThrough
  have h2 := @Jvm.Stand.outThrough
  trivial
