/-! A law of the library's rest (Shelf42) is named here, so that the very first round on a new machine is read over the whole library (else part 99s falls after 20 minutes, and all is compiled anew). -/
theorem w0_wide : True := by
  have h := @Stand.thenCaughtThrough
  trivial
