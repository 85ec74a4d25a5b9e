/-! a row that needs the whole library (its names of throws), ahead of all: so that a round is read over it from the beginning -/
theorem ww_lib : True := by
  have _ := @Jvm.Stand.thenCaughtThrough
  trivial
