/-- the library is read whole: new T[n][m] is there -/
theorem needs_whole : True := by
  have h := @Stand.multianewarray2F
  trivial
