/-! THE RUNS, 11 to 15 -/
theorem run_11 : ∀ l, l < 9 → ckT l 11 (tT_compile (txL l 11) T0) = true := by decide +kernel
theorem run_12 : ∀ l, l < 9 → ckT l 12 (tT_compile (txL l 12) T0) = true := by decide +kernel
theorem run_13 : ∀ l, l < 9 → ckT l 13 (tT_compile (txL l 13) T0) = true := by decide +kernel
theorem run_14 : ∀ l, l < 9 → ckT l 14 (tT_compile (txL l 14) T0) = true := by decide +kernel
theorem run_15 : ∀ l, l < 9 → ckT l 15 (tT_compile (txL l 15) T0) = true := by decide +kernel
