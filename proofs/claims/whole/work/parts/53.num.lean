/-! ===== pure: reading numbers (own work) ===== -/
def isD (k : Nat) : Prop := 48 ≤ k ∧ k ≤ 57
instance : DecidablePred isD := fun k => inferInstanceAs (Decidable (48 ≤ k ∧ k ≤ 57))
