theorem gx_lib0 : True := by
  have h := @Jvm.Free.Multi.fill_facts
  trivial
