/-! RIGHT AND WRONG after paying -/
theorem mPyD_67 (m : CS) (q f : Int) (hf : 0 ≤ f ∧ f ≤ 1) : ∀ (n : Nat) (j : Int), (mPyD m q f n).2 6 j = m.2 6 j + b01 ((0 ≤ j ∧ j < n) ∧ m.2 12 (5 * q + j) ≠ 0 ∧ b01 (0 < m.2 12 (5 * q + j)) = f) ∧ (mPyD m q f n).2 7 j = m.2 7 j + b01 ((0 ≤ j ∧ j < n) ∧ m.2 12 (5 * q + j) ≠ 0 ∧ ¬ b01 (0 < m.2 12 (5 * q + j)) = f)
  | 0, j => by rw [b01_f (by omega), b01_f (by omega)]; exact ⟨(Int.add_zero _).symm, (Int.add_zero _).symm⟩
  | n + 1, j => by
    have h1 := mPyD_67 m q f hf n j
    have h12 := (mPyD_c m q f n).2 12 (by decide) (by decide) (by decide)
    have z1 := b01_cs ((0 ≤ j ∧ j < (n : Int)) ∧ m.2 12 (5 * q + j) ≠ 0 ∧ b01 (0 < m.2 12 (5 * q + j)) = f)
    have z2 := b01_cs ((0 ≤ j ∧ j < (n : Int)) ∧ m.2 12 (5 * q + j) ≠ 0 ∧ ¬ b01 (0 < m.2 12 (5 * q + j)) = f)
    have z3 := b01_cs ((0 ≤ j ∧ j < ((n + 1 : Nat) : Int)) ∧ m.2 12 (5 * q + j) ≠ 0 ∧ b01 (0 < m.2 12 (5 * q + j)) = f)
    have z4 := b01_cs ((0 ≤ j ∧ j < ((n + 1 : Nat) : Int)) ∧ m.2 12 (5 * q + j) ≠ 0 ∧ ¬ b01 (0 < m.2 12 (5 * q + j)) = f)
    rw [mPyD]
    unfold mPay1
    rw [h12]
    by_cases e : j = n
    · have ej : m.2 12 (5 * q + (n : Int)) = m.2 12 (5 * q + j) := by rw [e]
      rw [ej]
      split
      · show (mPyD m q f n).2 6 j = _ ∧ (mPyD m q f n).2 7 j = _
        omega
      · split
        · show upZ ((mPyD m q f n).2 6) (n : Int) ((mPyD m q f n).2 6 (n : Int) + 1) j = _ ∧ (mPyD m q f n).2 7 j = _
          rw [← e, upZ_same]
          omega
        · show (mPyD m q f n).2 6 j = _ ∧ upZ ((mPyD m q f n).2 7) (n : Int) ((mPyD m q f n).2 7 (n : Int) + 1) j = _
          rw [← e, upZ_same]
          omega
    · split
      · show (mPyD m q f n).2 6 j = _ ∧ (mPyD m q f n).2 7 j = _
        omega
      · split
        · show upZ ((mPyD m q f n).2 6) (n : Int) ((mPyD m q f n).2 6 (n : Int) + 1) j = _ ∧ (mPyD m q f n).2 7 j = _
          rw [upZ_ne e]
          omega
        · show (mPyD m q f n).2 6 j = _ ∧ upZ ((mPyD m q f n).2 7) (n : Int) ((mPyD m q f n).2 7 (n : Int) + 1) j = _
          rw [upZ_ne e]
          omega
