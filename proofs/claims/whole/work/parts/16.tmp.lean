theorem tmp_16 : True := trivial
