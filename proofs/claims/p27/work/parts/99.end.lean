theorem rz_end : True := trivial
