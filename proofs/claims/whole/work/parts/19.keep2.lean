/-! PULLING A PEG, BEGINNING A PIT: the relation is kept -/
theorem ff_congr {P P' : Int → Prop} [DecidablePred P] [DecidablePred P'] : ∀ n : Nat, (∀ j : Int, 0 ≤ j → j < n → (P j ↔ P' j)) → ff P n = ff P' n
  | 0, _ => rfl
  | n + 1, h => by
    have h1 := ff_congr n (fun j h0 h1 => h j h0 (by omega))
    have h2 := h (n : Int) (by omega) (by omega)
    rw [ff, ff, h1]
    by_cases e : ff P' n ≠ -1
    · rw [if_pos e, if_pos e]
    · rw [if_neg e, if_neg e]
      by_cases q : P (n : Int)
      · rw [if_pos q, if_pos (h2.mp q)]
      · rw [if_neg q, if_neg (fun z => q (h2.mpr z))]
section RC3
variable {B : Int} {c m : CS}
theorem RR.k_pull (h : RR c m) (hM : IM B m) {x y : Int} (hs : inF x y) (hp : m.2 8 (20 * y + x) ≠ 0) : RR (pullC c x y) (mPull m x y) := by
  have h3 := hM.r8 (20 * y + x)
  unfold pullC
  rw [show y * 20 + x = 20 * y + x by omega]
  exact RR.mk h.n0 h.n1 h.n2 h.n3 (by show c.1 4 - 1 = m.1 5 - 1; rw [h.n4]) h.n5 h.dep h.flw h.rch h.rch0 h.wat (fun j h1 h2 => (h.shl j h1 h2).trans (mDep_c (m := m) (m' := mPull m x y) rfl rfl j _)) h.fel h.len h.coi (fun j => by have h5 := h.own j; show upZ (c.2 8) (20 * y + x) (-1) j = upZ (m.2 8) (20 * y + x) 0 j - 1; unfold upZ; by_cases e : j = 20 * y + x <;> simp only [e, if_true, if_false] <;> first | omega | exact h5) (by
      have e1 := sm_congr (f := fun j => b01 (0 < m.2 8 j)) (f' := fun j => b01 (0 < upZ (m.2 8) (20 * y + x) 0 j) + b01 (j = 20 * y + x ∧ True)) 400 (fun j h0 h9 => by
        have z1 := b01_cs (0 < m.2 8 j)
        by_cases e : j = 20 * y + x
        · have z3 : b01 (j = 20 * y + x ∧ True) = 1 := b01_t ⟨e, trivial⟩
          have z4 : b01 (0 < upZ (m.2 8) (20 * y + x) 0 j) = 0 := b01_f (by rw [e, upZ_same]; omega)
          have z5 : m.2 8 j = m.2 8 (20 * y + x) := by rw [e]
          show b01 (0 < m.2 8 j) = b01 (0 < upZ (m.2 8) (20 * y + x) 0 j) + b01 (j = 20 * y + x ∧ True)
          omega
        · have z3 : b01 (j = 20 * y + x ∧ True) = 0 := b01_f (fun z => e z.1)
          show b01 (0 < m.2 8 j) = b01 (0 < upZ (m.2 8) (20 * y + x) 0 j) + b01 (j = 20 * y + x ∧ True)
          rw [upZ_ne e]
          omega)
      have e2 := h.cnt
      have e3 : b01 ((0 ≤ 20 * y + x ∧ 20 * y + x < ((400 : Nat) : Int)) ∧ True) = 1 := b01_t ⟨by omega, trivial⟩
      rw [sm_add, sm_pick, e3, ← e2] at e1
      show c.1 4 - 1 = sm (fun j => b01 (0 < upZ (m.2 8) (20 * y + x) 0 j)) 400
      omega) h.pat h.plc h.wdp h.dug h.dug0 h.sta h.bfp h.bfn h.bet0 h.rgt h.wrg
/-- the bets of a new pit are none, so its dowsers' counts stay -/
theorem pb_new {c : CS} {n : Nat} (hn : c.1 5 = n) (w : Int) (d rt : Int) (hz : c.2 14 ((n : Int) * 5 + d) = 0) (z : CS) (hz1 : z.1 5 = c.1 5 + 1) (h12 : z.2 12 = upZ (c.2 12) (n : Int) w) (h13 : z.2 13 = c.2 13) (h14 : z.2 14 = c.2 14) (h15 : z.2 15 = c.2 15) : pbets z d rt = pbets c d rt := by
  unfold pbets
  rw [hz1, hn, show ((n : Int) + 1).toNat = n + 1 by omega, show ((n : Int)).toNat = n by omega]
  show sm _ n + _ = _
  rw [sm_congr (f' := fun q => b01 ((over c q ∧ 0 < c.2 14 (q * 5 + d)) ∧ b01 (c.2 15 (q * 5 + d) = b01 (fnd c q)) = rt)) n (fun q h0 h1 => by
    have e : z.2 12 q = c.2 12 q := by rw [h12, upZ_ne (by omega)]
    have ef : fnd z q ↔ fnd c q := by show (0 < z.2 12 q ∧ z.2 12 q ≤ z.2 13 q) ↔ (0 < c.2 12 q ∧ c.2 12 q ≤ c.2 13 q); rw [e, h13]
    have eo : over z q ↔ over c q := by show (fnd z q ∨ 20 ≤ z.2 13 q) ↔ (fnd c q ∨ 20 ≤ c.2 13 q); rw [ef, h13]
    show b01 ((over z q ∧ 0 < z.2 14 (q * 5 + d)) ∧ b01 (z.2 15 (q * 5 + d) = b01 (fnd z q)) = rt) = b01 ((over c q ∧ 0 < c.2 14 (q * 5 + d)) ∧ b01 (c.2 15 (q * 5 + d) = b01 (fnd c q)) = rt)
    rw [h14, h15, b01_congr ef]
    exact b01_congr ⟨fun t => ⟨⟨eo.mp t.1.1, t.1.2⟩, t.2⟩, fun t => ⟨⟨eo.mpr t.1.1, t.1.2⟩, t.2⟩⟩)]
  show _ + b01 ((over z (n : Int) ∧ 0 < z.2 14 ((n : Int) * 5 + d)) ∧ b01 (z.2 15 ((n : Int) * 5 + d) = b01 (fnd z (n : Int))) = rt) = _
  rw [b01_f (fun t => by have := t.1.2; rw [h14, hz] at this; omega), Int.add_zero]
end RC3
