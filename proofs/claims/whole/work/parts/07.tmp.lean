def gW96 (f : Nat → Int32) : Prop := ∀ k, k < 96 → f k = (-5)
