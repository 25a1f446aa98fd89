/-- part 50 needs the whole library: named here, so that the first part already asks for it -/
theorem z_wide : True := by
  have _ := @Jvm.Stand.pushThrowing_eq
  trivial
