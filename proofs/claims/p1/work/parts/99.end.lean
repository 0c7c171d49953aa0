theorem xend : True := trivial
