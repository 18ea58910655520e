/-! The lists of the ballots. -/
set_option maxRecDepth 100000 in
theorem aro_p : ∀ v, v < 1012 → ∀ k, k < 13 → 0 < k → oAround (nI v) (nI k) = nI (v % k) := by decide +kernel
set_option maxRecDepth 100000 in
theorem aro_m : ∀ v, v < 1000 → ∀ k, k < 13 → 0 < k → oAround (0 - nI v) (nI k) = nI ((k - v % k) % k) := by decide +kernel
