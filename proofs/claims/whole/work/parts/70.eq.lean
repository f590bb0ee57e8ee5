
theorem zz_eq : True := trivial
