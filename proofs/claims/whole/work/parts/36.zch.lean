theorem zch_ok : ∀ n ≤ 6, zch n 720 (List.range n) = true := by decide +kernel
