theorem zz_wide : True := by
  have := @Jvm.Stand.slotType_none
  trivial
