/-! count -/
