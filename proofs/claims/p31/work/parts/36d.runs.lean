/-! THE RUNS, 16 to 20 -/
theorem run_16 : ∀ l, l < 9 → ckT l 16 (tT_compile (txL l 16) T0) = true := by decide +kernel
theorem run_17 : ∀ l, l < 9 → ckT l 17 (tT_compile (txL l 17) T0) = true := by decide +kernel
theorem run_18 : ∀ l, l < 9 → ckT l 18 (tT_compile (txL l 18) T0) = true := by decide +kernel
theorem run_19 : ∀ l, l < 9 → ckT l 19 (tT_compile (txL l 19) T0) = true := by decide +kernel
theorem run_20 : ∀ l, l < 9 → ckT l 20 (tT_compile (txL l 20) T0) = true := by decide +kernel
