/-! nothing is left to do here -/
