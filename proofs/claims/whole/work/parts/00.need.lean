/-! new T[n][m] stands in the rest of the library -/
theorem mn_need : True := by
  have h := @Jvm.Stand.multianewarray2F
  trivial
