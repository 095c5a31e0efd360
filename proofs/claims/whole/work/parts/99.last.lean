theorem ba_last : True := trivial
