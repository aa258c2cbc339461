theorem zwide0 : True := by
  have := @Jvm.Free.Multi.fill_old
  trivial
theorem zwide1 : True := by
  have := @Jvm.Free.Multi.fill_facts
  trivial
theorem zwide2 : True := by
  have := @Jvm.Free.Multi.fill_setTop
  trivial
theorem zwide3 : True := by
  have := @Jvm.Free.Multi.fill_inner
  trivial
theorem zwide4 : True := by
  have := @Jvm.Free.Multi.outerC_slot
  trivial
theorem zwide5 : True := by
  have := @Jvm.Free.Multi.outerC_facts
  trivial
