theorem zz_ : True := trivial
