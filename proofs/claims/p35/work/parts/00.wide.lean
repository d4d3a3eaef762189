theorem ww_0 : True := by
  have _h := @Jvm.Free.DS.win_agree
  trivial
