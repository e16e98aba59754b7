theorem zz_ok : True := by
  have := @v_280
  trivial
