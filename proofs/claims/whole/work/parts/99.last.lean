/-! last part: nothing is owed any more -/
theorem cw_last : True := trivial
