theorem zz1 : True := by
  have h := @Cond.arrayOver_specA
  trivial
theorem zz2 : True := by
  have h := @Jvm.Stand.multianewarray2
  trivial
theorem zz3 : True := by
  have h := @Jvm.Stand.multianewarray2K
  trivial
theorem zz4 : True := by
  have h := @Jvm.Free.Multi.fill_facts
  trivial
theorem zz5 : True := by
  have h := @Jvm.Stand.multianewarray2K'
  trivial
