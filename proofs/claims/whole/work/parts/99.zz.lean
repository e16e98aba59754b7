theorem zz_ok : True := by
  have := @c_32
  trivial
