/-! What the pure theory owes: both sides answer the same, and stay in relation. -/
