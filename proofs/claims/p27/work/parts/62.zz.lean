theorem zz_62 : True := trivial
