theorem yz_end : True := trivial
