/-! a new beginning -/
def fBgn (c : CS) : CS := ((c.1.1, c.1.2.1, 0, fun _ => (-1), fun _ => 0, fun _ => 0, fun _ => 0), 0, fun _ => 0, fun _ => 0)
