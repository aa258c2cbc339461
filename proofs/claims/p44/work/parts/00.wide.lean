theorem zwide0 : True := by
  have := @Jvm.Free.Multi.fill_old
  trivial
