/-! the calls' seasons -/
