theorem stub_3 : True := trivial
