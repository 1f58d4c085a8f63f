/-! a name of the library's rest (new T[n][m] on the machine), named first: so the rounds are read over the whole library from their first part on -/
theorem lib_first : True := by
  have _h := @Jvm.Stand.multianewarray2F
  trivial
