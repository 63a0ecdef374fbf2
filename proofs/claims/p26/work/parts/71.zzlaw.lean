theorem zz_law : True := trivial
