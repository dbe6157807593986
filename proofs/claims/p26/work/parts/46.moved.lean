/-! ===== the model's leads; the row behind a lead, the row ahead of it ===== -/
def leadM (n : Nat) (Ls : Nat → List Nat) (ld : Nat → Int32) : Prop := ∀ k, k < 3 → ∀ p, p < n → ld (7 * k + p) = nI ((Ls k).getD p 0)
