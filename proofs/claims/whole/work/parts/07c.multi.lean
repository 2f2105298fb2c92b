theorem tst_multi : True := by
  have := @Jvm.Stand.multianewarray2F
  trivial
