/-! the last part, a tiny one -/
theorem zz_last : True := trivial
