theorem am_dummy : True := trivial
