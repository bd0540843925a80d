/-! behind the checks: nothing -/
theorem gmark : True := trivial
