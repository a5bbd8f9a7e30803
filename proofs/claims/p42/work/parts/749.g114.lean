/-! THE LAW: its loop -/
