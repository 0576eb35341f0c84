/-! teach, the making of an object -/
