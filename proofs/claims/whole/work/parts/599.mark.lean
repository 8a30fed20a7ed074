/-! the row, the law, the start: behind -/
theorem z_mark : True := trivial
