/-! a name of the whole library, first of all: so that a new machine's first round reads all parts over it at once -/
theorem zwide_0 : True := by
  have := @Bundle.ownAtomsX
  trivial
