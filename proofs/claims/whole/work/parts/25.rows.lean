/-! The rows of references that the constructors fill. -/
def am_q4 : Nat → Option Nat := fun j => ([some 9, some 16, some 23, some 30, some 37, some 44, some 51, some 58, some 65, some 72, some 79, some 86] : List (Option Nat)).getD j none
def am_q107 : Nat → Option Nat := fun j => ([some 108, some 109, some 110, some 111, some 112, some 113] : List (Option Nat)).getD j none
def am_q115 : Nat → Option Nat := fun j => ([some 141, some 143, some 145, some 147, some 149, some 151, some 153, some 155] : List (Option Nat)).getD j none
