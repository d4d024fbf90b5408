/-! THE CODES OF BOTH SIDES ARE ONE -/
theorem ifc {P P' : Prop} [Decidable P] [Decidable P'] {x y x' y' : Nat} (h : P ↔ P') (hx : x = x') (hy : ¬ P → y = y') : (if P then x else y) = (if P' then x' else y') := by
  by_cases q : P
  · rw [if_pos q, if_pos (h.mp q)]; exact hx
  · rw [if_neg q, if_neg (fun z => q (h.mpr z))]; exact hy q
section RC
variable {B : Int} {c m : CS}
theorem RR.c_vein (h : RR c m) (hM : IM B m) (x y tx ty dp fl : Int) : kVein c x y tx ty dp fl = jVein m x y tx ty dp fl := by
  have hs := hM.s
  have n2 := h.n2
  have e1 := ab_comm tx x
  have e2 := ab_comm ty y
  exact ifc Iff.rfl rfl (fun _ => ifc (by omega) rfl (fun _ => ifc (by omega) rfl (fun _ => rfl)))
theorem RR.c_dow (h : RR c m) (hM : IM B m) (fl ln : Int) : kDow c fl ln = jDow m fl ln := by
  have hs := hM.s
  have n3 := h.n3
  exact ifc Iff.rfl rfl (fun _ => ifc (by omega) rfl (fun _ => rfl))
theorem RR.c_walk (h : RR c m) (d x y tx ty : Int) : kWalk c d x y tx ty = jWalk m d x y tx ty := by
  have n3 := h.n3
  exact ifc (by omega) rfl (fun _ => rfl)
theorem RR.c_pull (h : RR c m) (x y : Int) : kPull c x y = jPull m x y := by
  have e := h.own (20 * y + x)
  unfold kPull jPull
  rw [show y * 20 + x = 20 * y + x by omega]
  exact ifc Iff.rfl rfl (fun _ => ifc (by omega) rfl (fun _ => rfl))
theorem RR.c_pit (h : RR c m) (hM : IM B m) (x y : Int) : kPit c x y = jPit m x y := by
  have hs := hM.s
  have n5 := h.n5
  have e1 := mPA_b hM (20 * y + x)
  have e2 : mPA (sS m 0 0) (20 * y + x) = mPA m (20 * y + x) := rfl
  have e3 : inF x y → c.2 10 (20 * y + x) = mPA m (20 * y + x) := fun z => h.pat (20 * y + x) (by omega) (by omega)
  unfold kPit jPit
  rw [show y * 20 + x = 20 * y + x by omega, e2]
  by_cases z : inF x y
  · have e4 := e3 z
    exact ifc Iff.rfl rfl (fun _ => ifc (by omega) rfl (fun _ => rfl))
  · rw [if_pos z, if_pos z]
theorem RR.c_bet (h : RR c m) (hM : IM B m) (d q co9 : Int) : kBet c d q co9 = jBet m d q co9 := by
  have hs := hM.s
  have n3 := h.n3
  have n5 := h.n5
  have e1 := congrFun h.dug q
  have e2 := congrFun h.coi d
  have e3 := ab_cs (m.2 12 (5 * q + d))
  have e5 := hM.r11 q
  unfold kBet jBet
  rw [show q * 5 + d = 5 * q + d by omega]
  by_cases z : isD c d ∧ isP c q
  · have e4 := h.sta (5 * q + d) (by omega) (by omega)
    exact ifc (by omega) rfl (fun _ => ifc Iff.rfl rfl (fun _ => ifc (by omega) rfl (fun _ => rfl)))
  · rw [if_pos z, if_pos (by omega)]
theorem RR.c_dig (h : RR c m) (hM : IM B m) (q by9 : Int) : kDig c q by9 = jDig m q by9 := by
  have n5 := h.n5
  exact ifc (by omega) rfl (fun _ => ifc Iff.rfl rfl (fun _ => ifc (h.e_over hM q) rfl (fun _ => rfl)))
end RC
