theorem sk_last_dummy : True := trivial
