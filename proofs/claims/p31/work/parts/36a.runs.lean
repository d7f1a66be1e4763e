/-! THE RUNS, 1 to 5 -/
theorem run_1 : ∀ l, l < 9 → ckT l 1 (tT_compile (txL l 1) T0) = true := by decide +kernel
theorem run_2 : ∀ l, l < 9 → ckT l 2 (tT_compile (txL l 2) T0) = true := by decide +kernel
theorem run_3 : ∀ l, l < 9 → ckT l 3 (tT_compile (txL l 3) T0) = true := by decide +kernel
theorem run_4 : ∀ l, l < 9 → ckT l 4 (tT_compile (txL l 4) T0) = true := by decide +kernel
theorem run_5 : ∀ l, l < 9 → ckT l 5 (tT_compile (txL l 5) T0) = true := by decide +kernel
