theorem z_last_row : True := trivial
