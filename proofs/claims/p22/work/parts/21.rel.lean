/-! HOW A STATE OF THE CLASS AND A STATE OF THE LAW'S OWN FIELD STAND TO EACH OTHER -/
/-- how a vein reaches a spot so far away: over, beside, not -/
def lvl (d : Int) : Int := if d = 0 then 2 else if d = 1 then 1 else 0
/-- a vein lies in the field, and goes somewhere (or is one spot) -/
def VL (F : Int → Int) : Prop := (∀ k : Int, 0 ≤ k → k ≤ F 4 → inF (F 0 + k * F 2) (F 1 + k * F 3)) ∧ (F 2 ≠ 0 ∨ F 3 ≠ 0 ∨ F 4 = 0)
/-- whose peg is at a spot, -1 without one -/
def pgS (t : SS) (sp : Int) : Int := if sPA t (sp % 20) (sp / 20) = -1 then -1 else t.2 2 (sPA t (sp % 20) (sp / 20)) 2
/-- coins in bets that aren't paid -/
def sOpen (t : SS) : Int := sm (fun q => if sOv t q then 0 else sBt (t.2 3 q) 1 + sBt (t.2 3 q) 0) (t.1 5).toNat
abbrev RSn (c : CS) (t : SS) : Prop := c.1 0 = t.1 0 ∧ c.1 1 = t.1 1 ∧ c.1 2 = t.1 2 ∧ c.1 3 = t.1 3 ∧ c.1 4 = t.1 4 ∧ c.1 5 = t.1 5
abbrev RSv (c : CS) (t : SS) : Prop := ∀ i : Int, 0 ≤ i → i < t.1 2 → c.2 0 i = t.2 0 i 5 ∧ c.2 1 i = t.2 0 i 6 ∧ VL (t.2 0 i) ∧ ∀ sp : Int, 0 ≤ sp → sp < 400 → c.2 2 (i * 400 + sp) = lvl (vfar (t.2 0 i) (sp % 20) (sp / 20))
abbrev RSv0 (c : CS) (t : SS) : Prop := ∀ i sp : Int, t.1 2 ≤ i → i < 6 → 0 ≤ sp → sp < 400 → c.2 2 (i * 400 + sp) = 0
abbrev RSw (c : CS) (t : SS) : Prop := ∀ sp : Int, 0 ≤ sp → sp < 400 → c.2 3 sp = sWat t (sp % 20) (sp / 20) ∧ c.2 4 sp = sDep t (sp % 20) (sp / 20)
abbrev RSd (c : CS) (t : SS) : Prop := ∀ d : Int, 0 ≤ d → d < t.1 3 → c.2 5 d = t.2 1 d 0 ∧ c.2 6 d = t.2 1 d 1 ∧ c.2 7 d = t.2 1 d 2 ∧ 0 ≤ t.2 1 d 2
abbrev RSp (c : CS) (t : SS) : Prop := ∀ sp : Int, 0 ≤ sp → sp < 400 → c.2 8 sp = pgS t sp
abbrev RSu (t : SS) (k : Nat) : Prop := ∀ i j : Int, 0 ≤ i → i < j → j < t.1 (2 + k) → ¬ (t.2 k i 0 = t.2 k j 0 ∧ t.2 k i 1 = t.2 k j 1)
abbrev RSq (c : CS) (t : SS) : Prop := ∀ q : Int, 0 ≤ q → q < t.1 5 → c.2 11 q = t.2 3 q 1 * 20 + t.2 3 q 0 ∧ c.2 12 q = t.2 3 q 2 ∧ c.2 13 q = t.2 3 q 3 ∧ (0 < t.2 3 q 2 → t.2 3 q 3 ≤ t.2 3 q 2)
abbrev RSb (c : CS) (t : SS) : Prop := ∀ q d : Int, 0 ≤ q → q < t.1 5 → 0 ≤ d → d < 5 → c.2 14 (q * 5 + d) = ab (t.2 3 q (4 + d)) ∧ (t.2 3 q (4 + d) ≠ 0 → c.2 15 (q * 5 + d) = b01 (0 < t.2 3 q (4 + d))) ∧ (t.1 3 ≤ d → t.2 3 q (4 + d) = 0)
abbrev RSz (c : CS) (t : SS) : Prop := (∀ q d : Int, t.1 5 ≤ q → q < 10 → 0 ≤ d → d < 5 → c.2 14 (q * 5 + d) = 0) ∧ ∀ q : Int, t.1 5 ≤ q → q < 10 → c.2 13 q = 0
abbrev RSa (c : CS) (t : SS) : Prop := ∀ sp : Int, 0 ≤ sp → sp < 400 → c.2 10 sp = sQA t (sp % 20) (sp / 20)
abbrev RSr (c : CS) (t : SS) : Prop := ∀ d : Int, 0 ≤ d → d < t.1 3 → t.2 1 d 3 = pbets c d 1 ∧ t.2 1 d 4 = pbets c d 0
abbrev RSk (t : SS) : Prop := 0 ≤ t.1 1 ∧ t.1 1 + sm (fun d => t.2 1 d 2) (t.1 3).toNat + sOpen t = 50 * t.1 3
def RS (c : CS) (t : SS) : Prop := RSn c t ∧ RSv c t ∧ RSv0 c t ∧ RSw c t ∧ RSd c t ∧ RSp c t ∧ RSu t 2 ∧ RSu t 3 ∧ RSq c t ∧ RSb c t ∧ RSz c t ∧ RSa c t ∧ RSr c t ∧ RSk t
section RSX
variable {c : CS} {t : SS} {B : Int}
theorem RS.n (h : RS c t) : RSn c t := h.1
theorem RS.v (h : RS c t) : RSv c t := h.2.1
theorem RS.v0 (h : RS c t) : RSv0 c t := h.2.2.1
theorem RS.w (h : RS c t) : RSw c t := h.2.2.2.1
theorem RS.d (h : RS c t) : RSd c t := h.2.2.2.2.1
theorem RS.p (h : RS c t) : RSp c t := h.2.2.2.2.2.1
theorem RS.u2 (h : RS c t) : RSu t 2 := h.2.2.2.2.2.2.1
theorem RS.u3 (h : RS c t) : RSu t 3 := h.2.2.2.2.2.2.2.1
theorem RS.q (h : RS c t) : RSq c t := h.2.2.2.2.2.2.2.2.1
theorem RS.b (h : RS c t) : RSb c t := h.2.2.2.2.2.2.2.2.2.1
theorem RS.z (h : RS c t) : RSz c t := h.2.2.2.2.2.2.2.2.2.2.1
theorem RS.a (h : RS c t) : RSa c t := h.2.2.2.2.2.2.2.2.2.2.2.1
theorem RS.r (h : RS c t) : RSr c t := h.2.2.2.2.2.2.2.2.2.2.2.2.1
theorem RS.k (h : RS c t) : RSk t := h.2.2.2.2.2.2.2.2.2.2.2.2.2
end RSX
def qrow (x y dp : Int) : Int → Int := upZ (upZ (upZ (upZ (upZ (upZ (upZ (upZ (upZ (fun _ => 0) 0 x) 1 y) 2 dp) 3 0) 4 0) 5 0) 6 0) 7 0) 8 0
def drow (fl ln : Int) : Int → Int := upZ (upZ (upZ (upZ (upZ (fun _ => 0) 0 fl) 1 ln) 2 50) 3 0) 4 0
abbrev sBet (t : SS) (d q co9 v : Int) : SS := tR (tR t 1 (up2 (t.2 1) d 2 (t.2 1 d 2 - co9))) 3 (up2 (t.2 3) q (4 + d) v)
