/-! A name of the rest of the library: the rounds are read over the whole of it from the first part on. -/
theorem mq_wide : True := by
  have h := @Stand.thenCaughtThrough
  trivial
