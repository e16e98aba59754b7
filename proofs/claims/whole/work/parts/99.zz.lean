theorem zz_ok : True := by
  have := @v_80
  trivial
