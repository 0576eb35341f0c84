/-! what the reading of a tape comes to -/
def RdS (F : Nat → Int32) (n K : Nat) (sq : Nat → Nat) (sv : Nat → Int64) (y : LSt) (fd et : Int32) : Bool × LSt := lRun (cutN (K + 1) (tkS F n) sq) (cutN (K + 1) (tkV F n) sv) 400 true (yClr y fd et)
