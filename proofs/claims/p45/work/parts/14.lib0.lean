/-! A THING OR NONE, a truth, as the program's numbers. -/
def oI : Option Nat → Int32
  | none => -4
  | some m => nI m
def bI (b : Bool) : Int32 := nI b.toNat
