/-! THE START'S STATES are within bounds -/
theorem IC00 : IC (1000 + 100000 * ((0 : Nat) : Int)) c00 := by
  refine ⟨by show ICs _ _; unfold ICs; simp [c00, Nat.beq, cond], ?_, ?_, ?_, ?_, ?_, ?_, ?_, ?_, ?_, ?_, ?_, ?_, ?_, ?_, ?_⟩ <;> intro j <;> simp [c00, Nat.beq, cond]
theorem IM00 : IM (1000 + 100000 * ((0 : Nat) : Int)) m00 := by
  refine ⟨by show IMs _ _; unfold IMs; simp [m00, Nat.beq, cond], fun j hj => absurd hj (by show ¬ (0 ≤ j ∧ j < (0 : Int)); omega), ?_, ?_, ?_, ?_, ?_, ?_, ?_, ?_, ?_, ?_, ?_⟩ <;> intro j <;> simp [m00]
