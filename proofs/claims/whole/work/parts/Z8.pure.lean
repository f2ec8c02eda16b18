/-- the invariant of the turns -/
theorem lc_pure : ∃ I : Nat → lc_S → Prop, I 0 lc_z0 ∧ ∀ (n : Nat) (z : lc_S) (a b c : Int32), n < 512 → I n z → ∃ z', lc_turn a b c z z' ∧ I (n + 1) z' := lc_pure0
