/-! the last part is small -/
theorem zz_ok : True := trivial
