/-! EVERY CALL KEEPS THE RELATION -/
section RC2
variable {B : Int} {c m : CS}
theorem RR.c_rod (h : RR c m) (d x y : Int) : kRod c d x y = jRod m d x y := by
  have n3 := h.n3
  exact ifc (by omega) rfl (fun _ => rfl)
theorem RR.c_told (h : RR c m) (d w : Int) : kTold c d w = jTold m d w := by
  have n3 := h.n3
  exact ifc (by omega) rfl (fun _ => rfl)
theorem RR.c_about (h : RR c m) (q w : Int) : kAbout c q w = jAbout m q w := by
  have n5 := h.n5
  exact ifc (by omega) rfl (fun _ => rfl)
theorem RR.c_would (h : RR c m) (q d : Int) : kWould c q d = jWould m q d := by
  have n3 := h.n3
  have n5 := h.n5
  exact ifc (by omega) rfl (fun _ => rfl)
theorem RR.c_best (h : RR c m) (d w : Int) : kBest c d w = jBest m d w := by
  have n3 := h.n3
  exact ifc (by omega) rfl (fun _ => rfl)
theorem RR00 : RR c00 m00 := RR.mk rfl rfl rfl rfl rfl rfl rfl rfl (fun _ _ _ => rfl) (fun _ _ _ => rfl) (fun _ _ _ => rfl) (fun _ _ _ => rfl) rfl rfl rfl (fun _ => rfl) (by
    have h1 := sm_b (f := fun j => b01 (0 < m00.2 8 j)) (lo := 0) (hi := 0) 400 (fun j _ _ => by
      have h2 : b01 (0 < m00.2 8 j) = 0 := b01_f (by show ¬ (0 : Int) < 0; omega)
      show 0 ≤ b01 (0 < m00.2 8 j) ∧ b01 (0 < m00.2 8 j) ≤ 0
      omega)
    show (0 : Int) = _
    omega) (fun _ _ _ => rfl) rfl rfl rfl (fun _ _ => rfl) (fun _ _ _ => rfl) (fun j _ _ z => absurd z (by show ¬ (0 : Int) < 0; omega)) (fun j _ _ z => absurd z (by show ¬ (0 : Int) < 0; omega)) (fun _ _ _ _ _ _ _ => rfl) (fun _ _ _ => rfl) (fun _ _ _ => rfl)
theorem RR.k_mark (h : RR c m) (mk : Int) : RR (sS c 0 mk) (sS (sS m 0 0) 1 mk) := RR.mk rfl h.n1 h.n2 h.n3 h.n4 h.n5 h.dep h.flw h.rch h.rch0 h.wat (fun j h1 h2 => (h.shl j h1 h2).trans (mDep_c (m := m) (m' := sS (sS m 0 0) 1 mk) rfl rfl j _)) h.fel h.len h.coi h.own h.cnt h.pat h.plc h.wdp h.dug h.dug0 h.sta h.bfp h.bfn h.bet0 h.rgt h.wrg
theorem RR.k_dow (h : RR c m) (fl ln : Int) : RR (dowC c fl ln) (mDow m fl ln) := RR.mk h.n0 h.n1 h.n2 (by show c.1 3 + 1 = m.1 4 + 1; rw [h.n3]) h.n4 h.n5 h.dep h.flw h.rch h.rch0 h.wat (fun j h1 h2 => (h.shl j h1 h2).trans (mDep_c (m := m) (m' := mDow m fl ln) rfl rfl j _)) (by show upZ (c.2 5) (c.1 3) fl = upZ (m.2 3) (m.1 4) fl; rw [h.fel, h.n3]) (by show upZ (c.2 6) (c.1 3) ln = upZ (m.2 4) (m.1 4) ln; rw [h.len, h.n3]) (by show upZ (c.2 7) (c.1 3) 50 = upZ (m.2 5) (m.1 4) 50; rw [h.coi, h.n3]) h.own h.cnt h.pat h.plc h.wdp h.dug h.dug0 h.sta h.bfp h.bfn (fun q d h1 h2 h3 h4 h5 => h.bet0 q d h1 h2 h3 h4 (by have h6 : m.1 6 ≤ q ∨ m.1 4 + 1 ≤ d := h5; omega)) h.rgt h.wrg
theorem RR.e_mrk (h : RR c m) (hM : IM B m) (d : Int) {sp : Int} (hs : 0 ≤ sp ∧ sp < 400) : mrk c d sp ↔ mMk m d sp := by
  have h1 := h.e_bend hM d hs
  have h2 := h.own sp
  have h3 := hM.r8 sp
  have h4 := hM.s
  have n4 := h.n4
  have n0 := h.n0
  show ¬ (60 ≤ c.1 4 ∨ c.2 8 sp ≠ -1 ∨ bendC c d sp < c.1 0) ↔ ¬ (m.1 5 = 60 ∨ 0 < m.2 8 sp ∨ mBnd m d sp < m.1 1)
  omega
theorem RR.k_mrk (h : RR c m) (hM : IM B m) (d : Int) (hd : 0 ≤ d ∧ d < 5) {sp : Int} (hs : 0 ≤ sp ∧ sp < 400) : RR (mrkC c d sp) (mMkC m d sp) := by
  have h1 := h.e_mrk hM d hs
  unfold mrkC mMkC
  by_cases q : mMk m d sp
  · rw [if_pos q, if_pos (h1.mpr q)]
    have h3 := hM.r8 sp
    have h4 : ¬ (m.1 5 = 60 ∨ 0 < m.2 8 sp ∨ mBnd m d sp < m.1 1) := q
    exact RR.mk h.n0 h.n1 h.n2 h.n3 (by show c.1 4 + 1 = m.1 5 + 1; rw [h.n4]) h.n5 h.dep h.flw h.rch h.rch0 h.wat (fun j h1 h2 => (h.shl j h1 h2).trans (mDep_c (m := m) (m' := sS (sA m 8 (upZ (m.2 8) sp (d + 1))) 5 (m.1 5 + 1)) rfl rfl j _)) h.fel h.len h.coi (fun j => by have h5 := h.own j; show upZ (c.2 8) sp d j = upZ (m.2 8) sp (d + 1) j - 1; unfold upZ; by_cases e : j = sp <;> simp only [e, if_true, if_false] <;> first | omega | exact h5) (by
      have e1 := sm_congr (f := fun j => b01 (0 < upZ (m.2 8) sp (d + 1) j)) (f' := fun j => b01 (0 < m.2 8 j) + b01 (j = sp ∧ True)) 400 (fun j h0 h9 => by
        have z1 := b01_cs (0 < upZ (m.2 8) sp (d + 1) j)
        have z2 := b01_cs (0 < m.2 8 j)
        by_cases e : j = sp
        · subst e
          rw [upZ_same] at z1
          have z3 : b01 (j = j ∧ True) = 1 := b01_t ⟨rfl, trivial⟩
          show b01 (0 < upZ (m.2 8) j (d + 1) j) = b01 (0 < m.2 8 j) + b01 (j = j ∧ True)
          rw [upZ_same]
          omega
        · have z3 : b01 (j = sp ∧ True) = 0 := b01_f (fun z => e z.1)
          show b01 (0 < upZ (m.2 8) sp (d + 1) j) = b01 (0 < m.2 8 j) + b01 (j = sp ∧ True)
          rw [upZ_ne e]
          omega)
      have e2 := h.cnt
      have e3 : b01 ((0 ≤ sp ∧ sp < ((400 : Nat) : Int)) ∧ True) = 1 := b01_t ⟨by omega, trivial⟩
      rw [sm_add, sm_pick, e3, ← e2] at e1
      exact e1.symm) h.pat h.plc h.wdp h.dug h.dug0 h.sta h.bfp h.bfn h.bet0 h.rgt h.wrg
  · rw [if_neg q, if_neg (fun z => q (h1.mp z))]
    exact h
end RC2
