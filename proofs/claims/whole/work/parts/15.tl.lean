/-- the length of the k-th array behind an object -/
def tl (τ : Tau) (t k : Nat) : Nat := match τ (t + k) with | some (.inr (.inl n)) => n | _ => 0
