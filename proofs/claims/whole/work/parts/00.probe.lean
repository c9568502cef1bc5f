theorem zz_foo : True := trivial
