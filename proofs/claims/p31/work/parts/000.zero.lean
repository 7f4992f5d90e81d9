theorem zz_zero : True := trivial
