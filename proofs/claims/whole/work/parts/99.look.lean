theorem xlook : True := trivial
