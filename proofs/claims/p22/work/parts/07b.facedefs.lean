/-! WHAT THE FACE'S METHODS DO: which exception (0: none), which state, which answer -/
abbrev isD (c : CS) (d : Int) : Prop := 0 ≤ d ∧ d ≤ c.1 3 - 1
abbrev isP (c : CS) (q : Int) : Prop := 0 ≤ q ∧ q ≤ c.1 5 - 1
abbrev strt (x y tx ty : Int) : Prop := x = tx ∨ y = ty ∨ ab (tx - x) = ab (ty - y)
def kVein (c : CS) (x y tx ty dp fl : Int) : Nat := if ¬ (inF x y ∧ inF tx ty) then 1 else if ¬ (strt x y tx ty ∧ (1 ≤ dp ∧ dp ≤ 20) ∧ 1 ≤ fl ∧ fl ≤ 9) then 2 else if ¬ c.1 2 < 6 then 3 else 0
def opn (c : CS) (dp fl : Int) : CS := sS (sA (sA c 0 (upZ (c.2 0) (c.1 2) dp)) 1 (upZ (c.2 1) (c.1 2) fl)) 2 (c.1 2 + 1)
def layN (x y tx ty : Int) : Nat := (max (ab (tx - x)) (ab (ty - y)) + 1).toNat
def veinC (c : CS) (x y tx ty dp fl : Int) : CS := lay (opn c dp fl) (c.1 2) x y (sgn (tx - x)) (sgn (ty - y)) (layN x y tx ty)
def kDow (c : CS) (fl ln : Int) : Nat := if ¬ ((0 ≤ fl ∧ fl ≤ 9) ∧ -3 ≤ ln ∧ ln ≤ 3) then 1 else if ¬ c.1 3 < 5 then 2 else 0
def dowC (c : CS) (fl ln : Int) : CS := sS (sA (sA (sA c 5 (upZ (c.2 5) (c.1 3) fl)) 6 (upZ (c.2 6) (c.1 3) ln)) 7 (upZ (c.2 7) (c.1 3) 50)) 3 (c.1 3 + 1)
def kMark (mk : Int) : Nat := if ¬ (1 ≤ mk ∧ mk ≤ 30) then 1 else 0
def kWalk (c : CS) (d x y tx ty : Int) : Nat := if ¬ (isD c d ∧ inF x y ∧ inF tx ty) then 1 else 0
def w1 (x y tx : Int) : Nat → Int := fun n => y * 20 + (x + (n : Int) * sgn (tx - x))
def w2 (y tx ty : Int) : Nat → Int := fun n => (y + ((n : Int) + 1) * sgn (ty - y)) * 20 + tx
def walkA (c : CS) (d x y tx : Int) : CS := wkC c d (w1 x y tx) (ab (tx - x) + 1).toNat
def walkC (c : CS) (d x y tx ty : Int) : CS := wkC (walkA c d x y tx) d (w2 y tx ty) (ab (ty - y)).toNat
def walkR (c : CS) (d x y tx ty : Int) : Int := wkR c d (w1 x y tx) (ab (tx - x) + 1).toNat + wkR (walkA c d x y tx) d (w2 y tx ty) (ab (ty - y)).toNat
def kPull (c : CS) (x y : Int) : Nat := if ¬ inF x y then 1 else if ¬ (c.2 8 (y * 20 + x) ≠ -1) then 2 else 0
def pullC (c : CS) (x y : Int) : CS := sS (sA c 8 (upZ (c.2 8) (y * 20 + x) (-1))) 4 (c.1 4 - 1)
def kPit (c : CS) (x y : Int) : Nat := if ¬ inF x y then 1 else if ¬ (c.1 5 < 10 ∧ c.2 10 (y * 20 + x) < 0) then 2 else 0
def pitC (c : CS) (x y : Int) : CS := sS (sA (sA (sA c 11 (upZ (c.2 11) (c.1 5) (y * 20 + x))) 12 (upZ (c.2 12) (c.1 5) (c.2 4 (y * 20 + x)))) 10 (upZ (c.2 10) (y * 20 + x) (c.1 5))) 5 (c.1 5 + 1)
def kBet (c : CS) (d q co9 : Int) : Nat := if ¬ (isD c d ∧ isP c q) then 1 else if ¬ (1 ≤ co9 ∧ co9 ≤ 99) then 2 else if ¬ (c.2 13 q ≤ 0 ∧ ¬ 0 < c.2 14 (q * 5 + d) ∧ co9 ≤ c.2 7 d) then 3 else 0
def betC (c : CS) (d q co9 f : Int) : CS := sA (sA (sA c 14 (upZ (c.2 14) (q * 5 + d) co9)) 15 (upZ (c.2 15) (q * 5 + d) f)) 7 (upZ (c.2 7) d (c.2 7 d - co9))
def kDig (c : CS) (q by9 : Int) : Nat := if ¬ isP c q then 1 else if ¬ (1 ≤ by9 ∧ by9 ≤ 20) then 2 else if over c q then 3 else 0
def dpC (c : CS) (q by9 : Int) : CS := sA c 13 (upZ (c.2 13) q (dpn c q by9))
def digC1 (c : CS) (q by9 : Int) : CS := if over (dpC c q by9) q then payC (dpC c q by9) q else dpC c q by9
theorem dpn_b {B : Int} {c : CS} (h : IC B c) (q : Int) {by9 : Int} (hb : 1 ≤ by9 ∧ by9 ≤ 20) : 0 ≤ dpn c q by9 ∧ dpn c q by9 ≤ 20 := by
  have h1 := h.r12 q
  have h2 := h.r13 q
  unfold dpn
  by_cases w : 0 < c.2 12 q
  · rw [if_pos w]; omega
  · rw [if_neg w]; omega
theorem dpC_IC {B : Int} {c : CS} (h : IC B c) (q : Int) {by9 : Int} (hb : 1 ≤ by9 ∧ by9 ≤ 20) : IC B (dpC c q by9) := h.u13 (dpn_b h q hb)
theorem opn_IC {B : Int} {c : CS} (h : IC B c) {dp fl : Int} (hd : 1 ≤ dp ∧ dp ≤ 20) (hf : 1 ≤ fl ∧ fl ≤ 9) (hn : c.1 2 < 6) : IC B (opn c dp fl) := by
  have hs := h.s
  have h1 : IC B (sA c 0 (upZ (c.2 0) (c.1 2) dp)) := h.u0 (by omega)
  have h2 : IC B (sA (sA c 0 (upZ (c.2 0) (c.1 2) dp)) 1 (upZ (c.2 1) (c.1 2) fl)) := h1.u1 (by omega)
  exact h2.n2 (by omega)
theorem payC_row (c : CS) (q : Int) (k : Nat) (hk : k ≠ 7) : (payC c q).2 k = c.2 k := (payD_c c q _ _).2 k hk
def kSpot (x y w : Int) : Nat := if ¬ (inF x y ∧ 0 ≤ w ∧ w ≤ 5) then 1 else 0
def kRod (c : CS) (d x y : Int) : Nat := if ¬ (isD c d ∧ inF x y) then 1 else 0
def kTold (c : CS) (d w : Int) : Nat := if ¬ (isD c d ∧ 0 ≤ w ∧ w ≤ 7) then 1 else 0
def kAbout (c : CS) (q w : Int) : Nat := if ¬ (isP c q ∧ 0 ≤ w ∧ w ≤ 6) then 1 else 0
def kCount (w : Int) : Nat := if ¬ (0 ≤ w ∧ w ≤ 8) then 1 else 0
def kLine (w : Int) : Nat := if ¬ (0 ≤ w ∧ w ≤ 2) then 1 else 0
def kWould (c : CS) (q d : Int) : Nat := if ¬ (isP c q ∧ isD c d) then 1 else 0
def wouldT (c : CS) (q d f : Int) : Int := if over c q then 0 else shr c q d f
def kBest (c : CS) (d w : Int) : Nat := if ¬ (isD c d ∧ 0 ≤ w ∧ w ≤ 2) then 1 else 0
def bestT (c : CS) (d w : Int) : Int := if w = 0 then bestS c d % 20 else if w = 1 then bestS c d / 20 else bendC c d (bestS c d)
theorem wlk_in {x tx : Int} (h : (0 ≤ x ∧ x ≤ 19) ∧ 0 ≤ tx ∧ tx ≤ 19) {k : Int} (hk : 0 ≤ k ∧ k ≤ ab (tx - x)) : 0 ≤ x + k * sgn (tx - x) ∧ x + k * sgn (tx - x) ≤ 19 := by
  have e1 : sgn (tx - x) = 1 ∧ 0 < tx - x ∨ sgn (tx - x) = 0 ∧ tx = x ∨ sgn (tx - x) = -1 ∧ tx - x < 0 := by unfold sgn; omega
  unfold ab at hk
  rcases e1 with ⟨e1, h1⟩ | ⟨e1, h1⟩ | ⟨e1, h1⟩ <;> rw [e1] <;> omega
theorem sx_100 : (100, "no such dowser or spot") ∈ SXl := List.mem_cons_self
theorem sx_119 : (119, "no such spot") ∈ SXl := List.mem_cons_of_mem _ (List.mem_cons_self)
theorem sx_124 : (124, "no peg is there") ∈ SXl := List.mem_cons_of_mem _ (List.mem_cons_of_mem _ (List.mem_cons_self))
theorem sx_134 : (134, "there are 10 pits, or one is there") ∈ SXl := List.mem_cons_of_mem _ (List.mem_cons_of_mem _ (List.mem_cons_of_mem _ (List.mem_cons_self)))
theorem sx_143 : (143, "no such dowser or pit") ∈ SXl := List.mem_cons_of_mem _ (List.mem_cons_of_mem _ (List.mem_cons_of_mem _ (List.mem_cons_of_mem _ (List.mem_cons_self))))
theorem sx_145 : (145, "no such number of coins") ∈ SXl := List.mem_cons_of_mem _ (List.mem_cons_of_mem _ (List.mem_cons_of_mem _ (List.mem_cons_of_mem _ (List.mem_cons_of_mem _ (List.mem_cons_self)))))
theorem sx_156 : (156, "dug already, bet already, or too few coins") ∈ SXl := List.mem_cons_of_mem _ (List.mem_cons_of_mem _ (List.mem_cons_of_mem _ (List.mem_cons_of_mem _ (List.mem_cons_of_mem _ (List.mem_cons_of_mem _ (List.mem_cons_self))))))
theorem sx_162 : (162, "no such pit") ∈ SXl := List.mem_cons_of_mem _ (List.mem_cons_of_mem _ (List.mem_cons_of_mem _ (List.mem_cons_of_mem _ (List.mem_cons_of_mem _ (List.mem_cons_of_mem _ (List.mem_cons_of_mem _ (List.mem_cons_self)))))))
theorem sx_164 : (164, "no such depth to dig by") ∈ SXl := List.mem_cons_of_mem _ (List.mem_cons_of_mem _ (List.mem_cons_of_mem _ (List.mem_cons_of_mem _ (List.mem_cons_of_mem _ (List.mem_cons_of_mem _ (List.mem_cons_of_mem _ (List.mem_cons_of_mem _ (List.mem_cons_self))))))))
theorem sx_169 : (169, "the pit is over") ∈ SXl := List.mem_cons_of_mem _ (List.mem_cons_of_mem _ (List.mem_cons_of_mem _ (List.mem_cons_of_mem _ (List.mem_cons_of_mem _ (List.mem_cons_of_mem _ (List.mem_cons_of_mem _ (List.mem_cons_of_mem _ (List.mem_cons_of_mem _ (List.mem_cons_self)))))))))
theorem sx_179 : (179, "no such spot or question") ∈ SXl := List.mem_cons_of_mem _ (List.mem_cons_of_mem _ (List.mem_cons_of_mem _ (List.mem_cons_of_mem _ (List.mem_cons_of_mem _ (List.mem_cons_of_mem _ (List.mem_cons_of_mem _ (List.mem_cons_of_mem _ (List.mem_cons_of_mem _ (List.mem_cons_of_mem _ (List.mem_cons_self))))))))))
theorem sx_187 : (187, "no such dowser or question") ∈ SXl := List.mem_cons_of_mem _ (List.mem_cons_of_mem _ (List.mem_cons_of_mem _ (List.mem_cons_of_mem _ (List.mem_cons_of_mem _ (List.mem_cons_of_mem _ (List.mem_cons_of_mem _ (List.mem_cons_of_mem _ (List.mem_cons_of_mem _ (List.mem_cons_of_mem _ (List.mem_cons_of_mem _ (List.mem_cons_self)))))))))))
theorem sx_192 : (192, "no such pit or question") ∈ SXl := List.mem_cons_of_mem _ (List.mem_cons_of_mem _ (List.mem_cons_of_mem _ (List.mem_cons_of_mem _ (List.mem_cons_of_mem _ (List.mem_cons_of_mem _ (List.mem_cons_of_mem _ (List.mem_cons_of_mem _ (List.mem_cons_of_mem _ (List.mem_cons_of_mem _ (List.mem_cons_of_mem _ (List.mem_cons_of_mem _ (List.mem_cons_self))))))))))))
theorem sx_197 : (197, "no such question") ∈ SXl := List.mem_cons_of_mem _ (List.mem_cons_of_mem _ (List.mem_cons_of_mem _ (List.mem_cons_of_mem _ (List.mem_cons_of_mem _ (List.mem_cons_of_mem _ (List.mem_cons_of_mem _ (List.mem_cons_of_mem _ (List.mem_cons_of_mem _ (List.mem_cons_of_mem _ (List.mem_cons_of_mem _ (List.mem_cons_of_mem _ (List.mem_cons_of_mem _ (List.mem_cons_self)))))))))))))
theorem sx_205 : (205, "no such pit or dowser") ∈ SXl := List.mem_cons_of_mem _ (List.mem_cons_of_mem _ (List.mem_cons_of_mem _ (List.mem_cons_of_mem _ (List.mem_cons_of_mem _ (List.mem_cons_of_mem _ (List.mem_cons_of_mem _ (List.mem_cons_of_mem _ (List.mem_cons_of_mem _ (List.mem_cons_of_mem _ (List.mem_cons_of_mem _ (List.mem_cons_of_mem _ (List.mem_cons_of_mem _ (List.mem_cons_of_mem _ (List.mem_cons_self))))))))))))))
theorem sx_50 : (50, "an end is not in the field") ∈ SXl := List.mem_cons_of_mem _ (List.mem_cons_of_mem _ (List.mem_cons_of_mem _ (List.mem_cons_of_mem _ (List.mem_cons_of_mem _ (List.mem_cons_of_mem _ (List.mem_cons_of_mem _ (List.mem_cons_of_mem _ (List.mem_cons_of_mem _ (List.mem_cons_of_mem _ (List.mem_cons_of_mem _ (List.mem_cons_of_mem _ (List.mem_cons_of_mem _ (List.mem_cons_of_mem _ (List.mem_cons_of_mem _ (List.mem_cons_self)))))))))))))))
theorem sx_61 : (61, "the ends are not in one row, column or diagonal") ∈ SXl := List.mem_cons_of_mem _ (List.mem_cons_of_mem _ (List.mem_cons_of_mem _ (List.mem_cons_of_mem _ (List.mem_cons_of_mem _ (List.mem_cons_of_mem _ (List.mem_cons_of_mem _ (List.mem_cons_of_mem _ (List.mem_cons_of_mem _ (List.mem_cons_of_mem _ (List.mem_cons_of_mem _ (List.mem_cons_of_mem _ (List.mem_cons_of_mem _ (List.mem_cons_of_mem _ (List.mem_cons_of_mem _ (List.mem_cons_of_mem _ (List.mem_cons_self))))))))))))))))
theorem sx_68 : (68, "no such depth or flow") ∈ SXl := List.mem_cons_of_mem _ (List.mem_cons_of_mem _ (List.mem_cons_of_mem _ (List.mem_cons_of_mem _ (List.mem_cons_of_mem _ (List.mem_cons_of_mem _ (List.mem_cons_of_mem _ (List.mem_cons_of_mem _ (List.mem_cons_of_mem _ (List.mem_cons_of_mem _ (List.mem_cons_of_mem _ (List.mem_cons_of_mem _ (List.mem_cons_of_mem _ (List.mem_cons_of_mem _ (List.mem_cons_of_mem _ (List.mem_cons_of_mem _ (List.mem_cons_of_mem _ (List.mem_cons_self)))))))))))))))))
theorem sx_75 : (75, "there are 6 veins") ∈ SXl := List.mem_cons_of_mem _ (List.mem_cons_of_mem _ (List.mem_cons_of_mem _ (List.mem_cons_of_mem _ (List.mem_cons_of_mem _ (List.mem_cons_of_mem _ (List.mem_cons_of_mem _ (List.mem_cons_of_mem _ (List.mem_cons_of_mem _ (List.mem_cons_of_mem _ (List.mem_cons_of_mem _ (List.mem_cons_of_mem _ (List.mem_cons_of_mem _ (List.mem_cons_of_mem _ (List.mem_cons_of_mem _ (List.mem_cons_of_mem _ (List.mem_cons_of_mem _ (List.mem_cons_of_mem _ (List.mem_cons_self))))))))))))))))))
theorem sx_86 : (86, "no such feeling or lean") ∈ SXl := List.mem_cons_of_mem _ (List.mem_cons_of_mem _ (List.mem_cons_of_mem _ (List.mem_cons_of_mem _ (List.mem_cons_of_mem _ (List.mem_cons_of_mem _ (List.mem_cons_of_mem _ (List.mem_cons_of_mem _ (List.mem_cons_of_mem _ (List.mem_cons_of_mem _ (List.mem_cons_of_mem _ (List.mem_cons_of_mem _ (List.mem_cons_of_mem _ (List.mem_cons_of_mem _ (List.mem_cons_of_mem _ (List.mem_cons_of_mem _ (List.mem_cons_of_mem _ (List.mem_cons_of_mem _ (List.mem_cons_of_mem _ (List.mem_cons_self)))))))))))))))))))
theorem sx_89 : (89, "there are 5 dowsers") ∈ SXl := List.mem_cons_of_mem _ (List.mem_cons_of_mem _ (List.mem_cons_of_mem _ (List.mem_cons_of_mem _ (List.mem_cons_of_mem _ (List.mem_cons_of_mem _ (List.mem_cons_of_mem _ (List.mem_cons_of_mem _ (List.mem_cons_of_mem _ (List.mem_cons_of_mem _ (List.mem_cons_of_mem _ (List.mem_cons_of_mem _ (List.mem_cons_of_mem _ (List.mem_cons_of_mem _ (List.mem_cons_of_mem _ (List.mem_cons_of_mem _ (List.mem_cons_of_mem _ (List.mem_cons_of_mem _ (List.mem_cons_of_mem _ (List.mem_cons_of_mem _ (List.mem_cons_self))))))))))))))))))))
theorem sx_94 : (94, "no such mark") ∈ SXl := List.mem_cons_of_mem _ (List.mem_cons_of_mem _ (List.mem_cons_of_mem _ (List.mem_cons_of_mem _ (List.mem_cons_of_mem _ (List.mem_cons_of_mem _ (List.mem_cons_of_mem _ (List.mem_cons_of_mem _ (List.mem_cons_of_mem _ (List.mem_cons_of_mem _ (List.mem_cons_of_mem _ (List.mem_cons_of_mem _ (List.mem_cons_of_mem _ (List.mem_cons_of_mem _ (List.mem_cons_of_mem _ (List.mem_cons_of_mem _ (List.mem_cons_of_mem _ (List.mem_cons_of_mem _ (List.mem_cons_of_mem _ (List.mem_cons_of_mem _ (List.mem_cons_of_mem _ (List.mem_cons_self)))))))))))))))))))))
