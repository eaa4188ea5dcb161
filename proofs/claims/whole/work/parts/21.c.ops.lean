theorem stub_2 : True := trivial
