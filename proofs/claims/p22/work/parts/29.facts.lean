/-! WHAT THE LAW ASKS BETWEEN ITS ACTS, in words over the class's state -/
theorem lg_cmp_self (z : Int64) : lg_cmp z z = zI 0 := by
  unfold lg_cmp
  rw [if_neg (fun q => absurd q (by rw [gt_iff_lt, Int64.lt_iff_toInt_lt]; omega)), if_pos rfl]
  rfl
def spD (k : Int) : Int := k % 20 * 20 + k / 20
def handL (c : CS) (n : Nat) : Int := sm (fun d => dowT c d 2) n
def cnL (c : CS) : Nat → Int
  | 0 => c.1 1
  | n + 1 => cnL c n + (dowT c (n : Int) 2 + dowT c (n : Int) 5)
def pegL (c : CS) (n : Nat) : Int := sm (fun d => dowT c d 3) n
def paidL (c : CS) (n : Nat) : Int := sm (fun d => dowT c d 6 + dowT c d 7) n
def wetD (c : CS) (n : Nat) : Int := sm (fun k => b01 (0 < spotT c (spD k) 0)) n
def allD (c : CS) (n : Nat) : Int := sm (fun k => b01 (0 ≤ spotT c (spD k) 2)) n
def truD (c : CS) (n : Nat) : Int := sm (fun k => if 0 ≤ spotT c (spD k) 2 then b01 (0 < spotT c (spD k) 0) else 0) n
def watD (c : CS) (n : Nat) : Int := sm (fun k => if 0 ≤ spotT c (spD k) 2 then spotT c (spD k) 0 else 0) n
def rowD (c : CS) : Nat → Int → Int
  | 0 => fun _ => 0
  | n + 1 => if 0 ≤ spotT c (spD (n : Int)) 2 then upZ (rowD c n) ((n : Int) % 20) (rowD c n ((n : Int) % 20) + 1) else rowD c n
def colD (c : CS) : Nat → Int → Int
  | 0 => fun _ => 0
  | n + 1 => if 0 ≤ spotT c (spD (n : Int)) 2 then upZ (colD c n) ((n : Int) / 20) (colD c n ((n : Int) / 20) + 1) else colD c n
theorem spD_xy {x y : Nat} (hy : y < 20) : spD ((20 * x + y : Nat) : Int) = (y : Int) * 20 + (x : Int) ∧ ((20 * x + y : Nat) : Int) % 20 = (y : Int) ∧ ((20 * x + y : Nat) : Int) / 20 = (x : Int) := by
  unfold spD
  omega
theorem wetD_s (c : CS) (n : Nat) : wetD c (n + 1) = wetD c n + b01 (0 < spotT c (spD (n : Int)) 0) := rfl
theorem truD_s (c : CS) (n : Nat) : truD c (n + 1) = truD c n + (if 0 ≤ spotT c (spD (n : Int)) 2 then b01 (0 < spotT c (spD (n : Int)) 0) else 0) := rfl
theorem allD_s (c : CS) (n : Nat) : allD c (n + 1) = allD c n + b01 (0 ≤ spotT c (spD (n : Int)) 2) := rfl
theorem watD_s (c : CS) (n : Nat) : watD c (n + 1) = watD c n + (if 0 ≤ spotT c (spD (n : Int)) 2 then spotT c (spD (n : Int)) 0 else 0) := rfl
theorem rowD_s (c : CS) (n : Nat) : rowD c (n + 1) = if 0 ≤ spotT c (spD (n : Int)) 2 then upZ (rowD c n) ((n : Int) % 20) (rowD c n ((n : Int) % 20) + 1) else rowD c n := rfl
theorem colD_s (c : CS) (n : Nat) : colD c (n + 1) = if 0 ≤ spotT c (spD (n : Int)) 2 then upZ (colD c n) ((n : Int) / 20) (colD c n ((n : Int) / 20) + 1) else colD c n := rfl
theorem D_wet {c : CS} {x y : Nat} (hy : y < 20) : wetD c (20 * x + (y + 1)) = wetD c (20 * x + y) + b01 (0 < spotT c ((y : Int) * 20 + (x : Int)) 0) := by
  rw [← (spD_xy (x := x) hy).1]; rfl
theorem D_skip {c : CS} {x y : Nat} (hy : y < 20) (h : spotT c ((y : Int) * 20 + (x : Int)) 2 < 0) : truD c (20 * x + (y + 1)) = truD c (20 * x + y) ∧ allD c (20 * x + (y + 1)) = allD c (20 * x + y) ∧ watD c (20 * x + (y + 1)) = watD c (20 * x + y) ∧ rowD c (20 * x + (y + 1)) = rowD c (20 * x + y) ∧ colD c (20 * x + (y + 1)) = colD c (20 * x + y) := by
  have e := spD_xy (x := x) hy
  have hn : ¬ 0 ≤ spotT c (spD ((20 * x + y : Nat) : Int)) 2 := by rw [e.1]; omega
  rw [← Nat.add_assoc]
  exact ⟨by rw [truD_s, if_neg hn, Int.add_zero], by rw [allD_s, b01_f hn, Int.add_zero], by rw [watD_s, if_neg hn, Int.add_zero], by rw [rowD_s, if_neg hn], by rw [colD_s, if_neg hn]⟩
theorem D_take {c : CS} {x y : Nat} (hy : y < 20) (h : 0 ≤ spotT c ((y : Int) * 20 + (x : Int)) 2) : truD c (20 * x + (y + 1)) = truD c (20 * x + y) + b01 (0 < spotT c ((y : Int) * 20 + (x : Int)) 0) ∧ allD c (20 * x + (y + 1)) = allD c (20 * x + y) + 1 ∧ watD c (20 * x + (y + 1)) = watD c (20 * x + y) + spotT c ((y : Int) * 20 + (x : Int)) 0 ∧ rowD c (20 * x + (y + 1)) = upZ (rowD c (20 * x + y)) (y : Int) (rowD c (20 * x + y) (y : Int) + 1) ∧ colD c (20 * x + (y + 1)) = upZ (colD c (20 * x + y)) (x : Int) (colD c (20 * x + y) (x : Int) + 1) := by
  have e := spD_xy (x := x) hy
  have hn : 0 ≤ spotT c (spD ((20 * x + y : Nat) : Int)) 2 := by rw [e.1]; exact h
  rw [← Nat.add_assoc]
  exact ⟨by rw [truD_s, if_pos hn, e.1], by rw [allD_s, b01_t hn], by rw [watD_s, if_pos hn, e.1], by rw [rowD_s, if_pos hn, e.2.1], by rw [colD_s, if_pos hn, e.2.2]⟩
/-- which line of a kind a spot lies on -/
def itsL (c : CS) (x y : Int) : Int := if lineT c 1 = 0 then y else if lineT c 1 = 1 then x else if lineT c 1 = 2 then x - y else x + y
def onD (c : CS) (n : Nat) : Int := sm (fun k => if c.1 4 ≠ 0 ∧ itsL c (k / 20) (k % 20) = lineT c 2 then b01 (0 ≤ spotT c (spD k) 2) else 0) n
theorem onD_s (c : CS) (n : Nat) : onD c (n + 1) = onD c n + (if c.1 4 ≠ 0 ∧ itsL c ((n : Int) / 20) ((n : Int) % 20) = lineT c 2 then b01 (0 ≤ spotT c (spD (n : Int)) 2) else 0) := rfl
theorem O_skip {c : CS} {x y : Nat} (hy : y < 20) (h : ¬ (c.1 4 ≠ 0 ∧ itsL c (x : Int) (y : Int) = lineT c 2)) : onD c (20 * x + (y + 1)) = onD c (20 * x + y) := by
  have e := spD_xy (x := x) hy
  rw [← Nat.add_assoc, onD_s, e.2.1, e.2.2, if_neg h, Int.add_zero]
theorem O_take {c : CS} {x y : Nat} (hy : y < 20) (h : c.1 4 ≠ 0 ∧ itsL c (x : Int) (y : Int) = lineT c 2) : onD c (20 * x + (y + 1)) = onD c (20 * x + y) + b01 (0 ≤ spotT c ((y : Int) * 20 + (x : Int)) 2) := by
  have e := spD_xy (x := x) hy
  rw [← Nat.add_assoc, onD_s, e.2.1, e.2.2, if_pos h, e.1]
def wouS (c : CS) (q f : Int) (n : Nat) : Int := sm (fun d => wouldT c q d f) n
def stI (c : CS) (t : SS) (z q : Int) : Nat → Int
  | 0 => z
  | n + 1 => stI c t z q n + b01 (pitT c q 4 = 1 ∧ t.2 3 q (4 + (n : Int)) ≠ 0)
def setD (c : CS) (t : SS) : Nat → Int
  | 0 => 0
  | n + 1 => stI c t (setD c t n) (n : Int) (c.1 3).toNat
def gtF (c : CS) (q : Int) : Nat → Int → Int → Int
  | 0 => fun _ _ => 0
  | n + 1 => up2 (up2 (gtF c q n) 0 (n : Int) (dowT c (n : Int) 2 + wouldT c q (n : Int) 0)) 1 (n : Int) (dowT c (n : Int) 2 + wouldT c q (n : Int) 1)
section LF
variable {c : CS} {t : SS} {B : Int}
theorem L_told (h : RS c t) (hI : IC B c) (hT : IT t) {d : Int} (hd : 0 ≤ d ∧ d < t.1 3) : (0 ≤ dowT c d 2 ∧ dowT c d 2 ≤ 1000000000) ∧ (0 ≤ dowT c d 4 ∧ dowT c d 4 ≤ dowT c d 3 ∧ dowT c d 3 ≤ 1000) ∧ (0 ≤ dowT c d 5 ∧ dowT c d 5 ≤ 1000) ∧ (0 ≤ dowT c d 6 ∧ dowT c d 6 ≤ 10) ∧ (0 ≤ dowT c d 7 ∧ dowT c d 7 ≤ 10) ∧ dowT c d 6 + dowT c d 7 ≤ c.1 5 := by
  sorry
theorem L_sums (h : RS c t) (hI : IC B c) (hT : IT t) : cnL c (c.1 3).toNat = 50 * c.1 3 ∧ handL c (c.1 3).toNat = cntT c 8 ∧ pegL c (c.1 3).toNat = c.1 4 ∧ (0 ≤ c.1 1 ∧ c.1 1 ≤ 1000) ∧ (0 ≤ cntT c 8 ∧ cntT c 8 ≤ 1000) := by
  sorry
theorem L_spot (h : RS c t) (hI : IC B c) (hT : IT t) {x y : Int} (hf : inF x y) : (0 ≤ spotT c (y * 20 + x) 0 ∧ spotT c (y * 20 + x) 0 ≤ 54) ∧ ((spotT c (y * 20 + x) 0 = 0 ∧ spotT c (y * 20 + x) 1 = 0) ∨ (0 < spotT c (y * 20 + x) 0 ∧ 0 < spotT c (y * 20 + x) 1)) ∧ spotT c (y * 20 + x) 1 ≤ 20 ∧ -1 ≤ spotT c (y * 20 + x) 2 ∧ spotT c (y * 20 + x) 2 ≤ 4 := by
  sorry
theorem L_all (h : RS c t) (hI : IC B c) (hT : IT t) : wetD c (20 * 20) = cntT c 5 ∧ allD c (20 * 20) = c.1 4 ∧ truD c (20 * 20) = cntT c 6 ∧ watD c (20 * 20) = meanW c ∧ (0 ≤ cntT c 5 ∧ cntT c 5 ≤ 400) ∧ 0 ≤ cntT c 6 ∧ cntT c 6 ≤ 400 := by
  sorry
theorem lineT_9 {F : Int → Int} {w : Int} : lineT (sA c 9 F) w = lineT c w := by
  sorry
theorem digC_9 {F : Int → Int} : digC (sA c 9 F) = digC c := by
  sorry
theorem paidL_9 {F : Int → Int} {n : Nat} : paidL (sA c 9 F) n = paidL c n := by
  sorry
theorem R_line (h : RS c t) : RS (sA c 9 (onL c 400)) t := by
  sorry
theorem IC_line (hI : IC B c) : IC B (sA c 9 (onL c 400)) := by
  sorry
theorem L_line (h : RS c t) (hI : IC B c) (hT : IT t) : ((c.1 4 = 0 ∧ lineT c 0 = 0 ∧ lineT c 1 = -1) ∨ (0 < c.1 4 ∧ 0 < lineT c 0 ∧ 0 ≤ lineT c 1)) ∧ lineT c 0 ≤ 60 ∧ lineT c 1 ≤ 3 ∧ (-100 ≤ lineT c 2 ∧ lineT c 2 ≤ 100) ∧ (lineT c 1 = 0 → (0 ≤ lineT c 2 ∧ lineT c 2 < 20) ∧ rowD c (20 * 20) (lineT c 2) = lineT c 0) ∧ (lineT c 1 = 1 → (0 ≤ lineT c 2 ∧ lineT c 2 < 20) ∧ colD c (20 * 20) (lineT c 2) = lineT c 0) ∧ (∀ k : Int, 0 ≤ k → k < 20 → (0 ≤ rowD c (20 * 20) k ∧ rowD c (20 * 20) k ≤ lineT c 0) ∧ 0 ≤ colD c (20 * 20) k ∧ colD c (20 * 20) k ≤ lineT c 0) ∧ onD c (20 * 20) = lineT c 0 := by
  sorry
theorem L_best (hI : IC B c) {d : Int} : inF (bestT c d 0) (bestT c d 1) ∧ bendC c d (bestT c d 1 * 20 + bestT c d 0) = bestT c d 2 ∧ (0 ≤ bestT c d 2 ∧ bestT c d 2 ≤ 489) ∧ ∀ x y : Int, inF x y → 0 ≤ bendC c d (y * 20 + x) ∧ bendC c d (y * 20 + x) ≤ bestT c d 2 := by
  sorry
theorem L_pit (h : RS c t) (hI : IC B c) (hT : IT t) {q : Int} (hq : 0 ≤ q ∧ q < t.1 5) : (0 ≤ pitT c q 5 ∧ pitT c q 5 ≤ 495) ∧ (0 ≤ pitT c q 6 ∧ pitT c q 6 ≤ 495) ∧ (0 ≤ pitT c q 4 ∧ pitT c q 4 ≤ 1) ∧ (0 ≤ pitT c q 2 ∧ pitT c q 2 ≤ 20) ∧ (pitT c q 3 = 0 ∨ (pitT c q 3 = 1 ∧ pitT c q 4 = 1)) ∧ (pitT c q 2 < 20 ∨ pitT c q 4 = 1) ∧ inF (pitT c q 0) (pitT c q 1) ∧ spotT c (pitT c q 1 * 20 + pitT c q 0) 3 = q := by
  sorry
theorem L_wou (h : RS c t) (hI : IC B c) (hT : IT t) {q : Int} (hq : 0 ≤ q ∧ q < t.1 5) : (pitT c q 4 = 1 ∧ wouS c q 1 (c.1 3).toNat = 0 ∧ wouS c q 0 (c.1 3).toNat = 0) ∨ (pitT c q 4 = 0 ∧ (wouS c q 1 (c.1 3).toNat ≤ pitT c q 5 + pitT c q 6 ∧ wouS c q 0 (c.1 3).toNat ≤ pitT c q 5 + pitT c q 6) ∧ ((wouS c q 1 (c.1 3).toNat = 0 ∧ pitT c q 5 = 0) ∨ (0 < wouS c q 1 (c.1 3).toNat ∧ 0 < pitT c q 5)) ∧ ((wouS c q 0 (c.1 3).toNat = 0 ∧ pitT c q 6 = 0) ∨ (0 < wouS c q 0 (c.1 3).toNat ∧ 0 < pitT c q 6))) := by
  sorry
theorem L_settled (h : RS c t) (hI : IC B c) (hT : IT t) : setD c t (c.1 5).toNat = paidL c (c.1 3).toNat ∧ 0 ≤ paidL c (c.1 3).toNat ∧ paidL c (c.1 3).toNat ≤ 1000 := by
  sorry
theorem L_notov {q : Int} (h : ¬ pitT c q 4 = 1) : ¬ over c q := by
  sorry
theorem L_dig (h : RS c t) (hI : IC B c) (hT : IT t) {q : Int} (hq : 0 ≤ q ∧ q < t.1 5) (ho : ¬ over c q) : pitT (digC1 c q 20) q 4 = 1 ∧ pitT (digC1 c q 20) q 2 = dpn c q 20 ∧ (0 ≤ dpn c q 20 ∧ dpn c q 20 ≤ 20) ∧ (0 ≤ pitT (digC1 c q 20) q 3 ∧ pitT (digC1 c q 20) q 3 ≤ 1) ∧ (c.1 1 ≤ (digC1 c q 20).1 1 ∧ (digC1 c q 20).1 1 ≤ c.1 1 + pitT (digC1 c q 20) q 5 + pitT (digC1 c q 20) q 6 ∧ 0 ≤ c.1 1 ∧ c.1 1 ≤ 1000 ∧ (digC1 c q 20).1 1 ≤ 3000 ∧ 0 ≤ pitT (digC1 c q 20) q 5 ∧ pitT (digC1 c q 20) q 5 ≤ 495 ∧ 0 ≤ pitT (digC1 c q 20) q 6 ∧ pitT (digC1 c q 20) q 6 ≤ 495) ∧ ((digC1 c q 20).1 3 = c.1 3 ∧ (digC1 c q 20).1 5 = c.1 5) ∧ ∀ d : Int, 0 ≤ d → d < c.1 3 → (dowT (digC1 c q 20) d 2 = gtF c q (c.1 3).toNat (pitT (digC1 c q 20) q 3) d ∧ -1000000 ≤ dowT (digC1 c q 20) d 2 ∧ dowT (digC1 c q 20) d 2 ≤ 1000000) ∧ ∀ f : Int, wouldT (digC1 c q 20) q d f = 0 := by
  sorry
end LF
