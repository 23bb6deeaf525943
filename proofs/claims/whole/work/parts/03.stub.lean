theorem okMs : ∀ t, t < 228 → okM t := sorry
theorem mCode_ok (y : Nat) : ∀ w ∈ mCode y, okRow w = true := sorry
