theorem zz61 : True := trivial
