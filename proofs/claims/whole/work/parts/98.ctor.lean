/-! the kernel runs the constructors -/
set_option maxRecDepth 1000000 in
theorem ctr_ok : ctr = true := by decide +kernel
