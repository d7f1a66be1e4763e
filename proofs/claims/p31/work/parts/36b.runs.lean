/-! THE RUNS, 6 to 10 -/
theorem run_6 : ∀ l, l < 9 → ckT l 6 (tT_compile (txL l 6) T0) = true := by decide +kernel
theorem run_7 : ∀ l, l < 9 → ckT l 7 (tT_compile (txL l 7) T0) = true := by decide +kernel
theorem run_8 : ∀ l, l < 9 → ckT l 8 (tT_compile (txL l 8) T0) = true := by decide +kernel
theorem run_9 : ∀ l, l < 9 → ckT l 9 (tT_compile (txL l 9) T0) = true := by decide +kernel
theorem run_10 : ∀ l, l < 9 → ckT l 10 (tT_compile (txL l 10) T0) = true := by decide +kernel
