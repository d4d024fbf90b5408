/-! A NEW VEIN, both sides together -/
section RCW
variable {B : Int} {c m : CS}
theorem RR.k_vein (h : RR c m) (hM : IM B m) {x y tx ty dp fl : Int} (h1 : inF x y) (h2 : inF tx ty) (h3 : strt x y tx ty) (hd : 1 ≤ dp ∧ dp ≤ 20) (hfl : 1 ≤ fl ∧ fl ≤ 9) (hn : m.1 3 < 6) : RR (veinC c x y tx ty dp fl) (mVein m x y tx ty dp fl) := by
  have hm := hM.s
  have n2 := h.n2
  obtain ⟨n, hn9⟩ : ∃ n : Nat, m.1 3 = n := ⟨(m.1 3).toNat, by omega⟩
  have hcn : c.1 2 = n := n2.trans hn9
  obtain ⟨N, hN⟩ : ∃ N : Nat, N = layN x y tx ty := ⟨_, rfl⟩
  have hin : ∀ k : Nat, k < N → inF (x + (k : Int) * sgn (tx - x)) (y + (k : Int) * sgn (ty - y)) := fun k hk => by
    have h4 := sgn_in (x := x) (y := y) (tx := tx) (ty := ty) ⟨h1.1, h1.2, h2.1, h2.2⟩ h3 (k := (k : Int)) (by unfold layN at hN; omega)
    exact h4
  have hfi : ∀ k : Nat, k < N → 0 ≤ vpt x y (sgn (tx - x)) (sgn (ty - y)) k ∧ vpt x y (sgn (tx - x)) (sgn (ty - y)) k < 400 := fun k hk => by
    have h4 := hin k hk
    unfold vpt
    omega
  have eN : (mst (20 * y + x) (20 * ty + tx) + 1).toNat = N := by rw [mst_eq h1 h2, hN]; rfl
  have hf : ∀ k : Nat, k < N → (20 * y + x) + (k : Int) * mby (20 * y + x) (20 * ty + tx) (mst (20 * y + x) (20 * ty + tx)) = vpt x y (sgn (tx - x)) (sgn (ty - y)) k := fun k _ => by rw [mby_eq h1 h2 h3, vpt_eq]
  -- the class
  obtain ⟨X, hX⟩ : ∃ X, X = lay (opn c dp fl) (n : Int) x y (sgn (tx - x)) (sgn (ty - y)) N := ⟨_, rfl⟩
  have eX : veinC c x y tx ty dp fl = X := by unfold veinC; rw [hX, hcn, ← hN]
  have cr := lay_row (opn c dp fl) (n : Int) x y (sgn (tx - x)) (sgn (ty - y)) N
  have c2 := lay_2 (z := opn c dp fl) (v := (n : Int)) (dx := sgn (tx - x)) (dy := sgn (ty - y)) (N := N) hin (fun p p0 p1 => by
    show c.2 2 ((n : Int) * 400 + p) = 0
    rw [h.rch _ (by omega) (by omega)]
    exact h.rch0 _ (by omega) (by omega)) N (Nat.le_refl _)
  have c34 := lay_34 (z := opn c dp fl) (v := (n : Int)) (x := x) (y := y) (dx := sgn (tx - x)) (dy := sgn (ty - y)) (N := N) (fun i j hij hj => vpt_inj hN i j hij hj) N (Nat.le_refl _)
  rw [← hX] at cr c2 c34
  -- the reference
  obtain ⟨Y0, hY0⟩ : ∃ Y0, Y0 = mLay (mOpn m dp fl) (n : Int) (20 * y + x) (20 * ty + tx) := ⟨_, rfl⟩
  have mr := mLay_c (mOpn m dp fl) (n : Int) (20 * y + x) (20 * ty + tx)
  obtain ⟨m2, m2o⟩ := mLay_2 (z := mOpn m dp fl) (v := (n : Int)) (fr := 20 * y + x) (tt := 20 * ty + tx) (f := vpt x y (sgn (tx - x)) (sgn (ty - y))) eN hf hfi (fun p p0 p1 => by
    show m.2 2 (400 * (n : Int) + p) = 0
    exact h.rch0 _ (by omega) (by omega))
  rw [← hY0] at mr m2 m2o
  have y1 : ∀ k : Nat, k ≠ 0 → Y0.1 k = m.1 k := fun k hk => by rw [mr.1]; exact sS_ne hk
  have eY : mVein m x y tx ty dp fl = sS Y0 3 (m.1 3 + 1) := by unfold mVein; rw [hn9, ← hY0, y1 3 (by decide), hn9]
  rw [eX, eY]
  have x1 : ∀ k : Nat, k ≠ 2 → X.1 k = c.1 k := fun k hk => by rw [cr.1]; exact sS_ne hk
  have x12 : X.1 2 = c.1 2 + 1 := by rw [cr.1]; rfl
  have xr : ∀ k : Nat, k ≠ 0 → k ≠ 1 → k ≠ 2 → k ≠ 3 → k ≠ 4 → X.2 k = c.2 k := fun k k0 k1 k2 k3 k4 => by
    rw [cr.2.1 k k2 k3 k4]
    show (sA (sA c 0 _) 1 _).2 k = c.2 k
    rw [sA_ne k1, sA_ne k0]
  have yr : ∀ k : Nat, k ≠ 0 → k ≠ 1 → k ≠ 2 → Y0.2 k = m.2 k := fun k k0 k1 k2 => by
    rw [mr.2 k k2]
    show (sA (sA (sS m 0 0) 0 _) 1 _).2 k = m.2 k
    rw [sA_ne k1, sA_ne k0]
    rfl
  have x0 : X.2 0 = upZ (c.2 0) (c.1 2) dp := by rw [cr.2.1 0 (by decide) (by decide) (by decide)]; rfl
  have x1' : X.2 1 = upZ (c.2 1) (c.1 2) fl := by rw [cr.2.1 1 (by decide) (by decide) (by decide)]; rfl
  have y0' : Y0.2 0 = upZ (m.2 0) (n : Int) dp := by rw [mr.2 0 (by decide), ← hn9]; rfl
  have y1' : Y0.2 1 = upZ (m.2 1) (n : Int) fl := by rw [mr.2 1 (by decide), ← hn9]; rfl
  have rch : ∀ j : Int, 0 ≤ j → j < 2400 → X.2 2 j = Y0.2 2 j := fun j j0 j1 => by
    by_cases e : 400 * (n : Int) ≤ j ∧ j < 400 * (n : Int) + 400
    · obtain ⟨p, hp⟩ : ∃ p, p = j - 400 * (n : Int) := ⟨_, rfl⟩
      obtain ⟨a1, a2, a3⟩ := c2 p (by omega) (by omega)
      obtain ⟨b1, b2, b3⟩ := m2 p (by omega) (by omega)
      rw [show (n : Int) * 400 + p = j by omega, ← b2] at a2
      rw [show (n : Int) * 400 + p = j by omega, ← b3] at a3
      rw [show (n : Int) * 400 + p = j by omega] at a1
      rw [show 400 * (n : Int) + p = j by omega] at a2 a3 b1
      clear b2 b3
      omega
    · rw [cr.2.2 j (by omega), m2o j (by omega)]
      exact h.rch j j0 j1
  have old : ∀ p : Int, 0 ≤ p → p < 400 → ∀ k : Int, 0 ≤ k → k < (n : Int) → Y0.2 2 (400 * k + p) = m.2 2 (400 * k + p) := fun p p0 p1 k k0 k1 => m2o _ (by omega)
  have eM : (m.1 3 + 1).toNat = n + 1 := by omega
  have eM0 : (m.1 3).toNat = n := by omega
  have fl1 : (opn c dp fl).2 1 (n : Int) = fl := by
    show upZ (c.2 1) (c.1 2) fl (n : Int) = fl
    rw [← hcn, upZ_same]
  have dp0 : (opn c dp fl).2 0 (n : Int) = dp := by
    show upZ (c.2 0) (c.1 2) dp (n : Int) = dp
    rw [← hcn, upZ_same]
  refine RR.mk ?_ ?_ ?_ ?_ ?_ ?_ ?_ ?_ rch ?_ ?_ ?_ ?_ ?_ ?_ ?_ ?_ ?_ ?_ ?_ ?_ ?_ ?_ ?_ ?_ ?_ ?_ ?_
  · rw [x1 0 (by decide)]; exact h.n0.trans (y1 1 (by decide)).symm
  · rw [x1 1 (by decide)]; exact h.n1.trans (y1 2 (by decide)).symm
  · rw [x12, n2]; rfl
  · rw [x1 3 (by decide)]; exact h.n3.trans (y1 4 (by decide)).symm
  · rw [x1 4 (by decide)]; exact h.n4.trans (y1 5 (by decide)).symm
  · rw [x1 5 (by decide)]; exact h.n5.trans (y1 6 (by decide)).symm
  · show X.2 0 = Y0.2 0
    rw [x0, y0', h.dep, hcn]
  · show X.2 1 = Y0.2 1
    rw [x1', y1', h.flw, hcn]
  · intro j j1 j2
    have j3 : 400 * (m.1 3 + 1) ≤ j := j1
    show Y0.2 2 j = 0
    rw [m2o j (by omega)]
    exact h.rch0 j (by omega) j2
  · intro p p0 p1
    have hw := mWat_more (m := m) (x := sS Y0 3 (m.1 3 + 1)) (n := n) (fl := fl) (sp := p) y1' (old p p0 p1)
    obtain ⟨b1, b2, b3⟩ := m2 p p0 p1
    obtain ⟨q1, q2⟩ := c34 p
    show X.2 3 p = mWat (sS Y0 3 (m.1 3 + 1)) p (m.1 3 + 1).toNat
    rw [eM, hw]
    have e0 := h.wat p p0 p1
    rw [eM0] at e0
    show X.2 3 p = mWat m p n + (if Y0.2 2 (400 * (n : Int) + p) = 2 then fl else 0)
    by_cases e : ∃ k : Nat, k < N ∧ vpt x y (sgn (tx - x)) (sgn (ty - y)) k = p
    · rw [if_pos (b2.mpr e), (q1 e).1, fl1, ← e0]
      rfl
    · rw [if_neg (fun z => e (b2.mp z)), (q2 e).1, ← e0]
      exact (Int.add_zero _).symm
  · intro p p0 p1
    have hw := mDep_more (m := m) (x := sS Y0 3 (m.1 3 + 1)) (N := n) (dp := dp) (sp := p) y0' (old p p0 p1) n (Nat.le_refl _)
    obtain ⟨b1, b2, b3⟩ := m2 p p0 p1
    obtain ⟨q1, q2⟩ := c34 p
    show X.2 4 p = mDep (sS Y0 3 (m.1 3 + 1)) p (m.1 3 + 1).toNat
    rw [eM, mDep, hw]
    have e0 := h.shl p p0 p1
    rw [eM0] at e0
    show X.2 4 p = if Y0.2 2 (400 * (n : Int) + p) = 2 ∧ (mDep m p n = 0 ∨ Y0.2 0 (n : Int) < mDep m p n) then Y0.2 0 (n : Int) else mDep m p n
    rw [y0', upZ_same, ← e0]
    by_cases e : ∃ k : Nat, k < N ∧ vpt x y (sgn (tx - x)) (sgn (ty - y)) k = p
    · rw [(q1 e).2]
      unfold shlw
      rw [dp0]
      show (if c.2 4 p = 0 ∨ dp < c.2 4 p then dp else c.2 4 p) = _
      by_cases w : c.2 4 p = 0 ∨ dp < c.2 4 p
      · rw [if_pos w, if_pos ⟨b2.mpr e, w⟩]
      · rw [if_neg w, if_neg (fun z => w z.2)]
    · rw [(q2 e).2, if_neg (fun z => e (b2.mp z.1))]
      rfl
  · rw [xr 5 (by decide) (by decide) (by decide) (by decide) (by decide)]; exact h.fel.trans (yr 3 (by decide) (by decide) (by decide)).symm
  · rw [xr 6 (by decide) (by decide) (by decide) (by decide) (by decide)]; exact h.len.trans (yr 4 (by decide) (by decide) (by decide)).symm
  · rw [xr 7 (by decide) (by decide) (by decide) (by decide) (by decide)]; exact h.coi.trans (yr 5 (by decide) (by decide) (by decide)).symm
  · intro j
    rw [xr 8 (by decide) (by decide) (by decide) (by decide) (by decide)]
    show c.2 8 j = Y0.2 8 j - 1
    rw [yr 8 (by decide) (by decide) (by decide)]
    exact h.own j
  · rw [x1 4 (by decide)]
    show c.1 4 = sm (fun j => b01 (0 < Y0.2 8 j)) 400
    rw [yr 8 (by decide) (by decide) (by decide)]
    exact h.cnt
  · intro j j0 j1
    have e : mPA (sS Y0 3 (m.1 3 + 1)) j = mPA m j := by
      show ff (fun k => Y0.2 9 k = j) (Y0.1 6).toNat = ff (fun k => m.2 9 k = j) (m.1 6).toNat
      rw [yr 9 (by decide) (by decide) (by decide), y1 6 (by decide)]
    rw [xr 10 (by decide) (by decide) (by decide) (by decide) (by decide), e]
    exact h.pat j j0 j1
  · rw [xr 11 (by decide) (by decide) (by decide) (by decide) (by decide)]; exact h.plc.trans (yr 9 (by decide) (by decide) (by decide)).symm
  · rw [xr 12 (by decide) (by decide) (by decide) (by decide) (by decide)]; exact h.wdp.trans (yr 10 (by decide) (by decide) (by decide)).symm
  · rw [xr 13 (by decide) (by decide) (by decide) (by decide) (by decide)]; exact h.dug.trans (yr 11 (by decide) (by decide) (by decide)).symm
  · intro q q0
    have q1 : Y0.1 6 ≤ q := q0
    rw [y1 6 (by decide)] at q1
    show Y0.2 11 q = 0
    rw [yr 11 (by decide) (by decide) (by decide)]
    exact h.dug0 q q1
  · intro j j0 j1
    rw [xr 14 (by decide) (by decide) (by decide) (by decide) (by decide)]
    show c.2 14 j = ab (Y0.2 12 j)
    rw [yr 12 (by decide) (by decide) (by decide)]
    exact h.sta j j0 j1
  · intro j j0 j1 j2
    have j3 : 0 < Y0.2 12 j := j2
    rw [yr 12 (by decide) (by decide) (by decide)] at j3
    rw [xr 15 (by decide) (by decide) (by decide) (by decide) (by decide)]
    exact h.bfp j j0 j1 j3
  · intro j j0 j1 j2
    have j3 : Y0.2 12 j < 0 := j2
    rw [yr 12 (by decide) (by decide) (by decide)] at j3
    rw [xr 15 (by decide) (by decide) (by decide) (by decide) (by decide)]
    exact h.bfn j j0 j1 j3
  · intro q d q0 q1 d0 d1 hh
    have hh2 : Y0.1 6 ≤ q ∨ Y0.1 4 ≤ d := hh
    rw [y1 6 (by decide), y1 4 (by decide)] at hh2
    show Y0.2 12 (5 * q + d) = 0
    rw [yr 12 (by decide) (by decide) (by decide)]
    exact h.bet0 q d q0 q1 d0 d1 hh2
  · intro d d0 d1
    show Y0.2 6 d = _
    rw [yr 6 (by decide) (by decide) (by decide), pb_same (c := c) (x1 5 (by decide)) (xr 12 (by decide) (by decide) (by decide) (by decide) (by decide)) (xr 13 (by decide) (by decide) (by decide) (by decide) (by decide)) (xr 14 (by decide) (by decide) (by decide) (by decide) (by decide)) (xr 15 (by decide) (by decide) (by decide) (by decide) (by decide))]
    exact h.rgt d d0 d1
  · intro d d0 d1
    show Y0.2 7 d = _
    rw [yr 7 (by decide) (by decide) (by decide), pb_same (c := c) (x1 5 (by decide)) (xr 12 (by decide) (by decide) (by decide) (by decide) (by decide)) (xr 13 (by decide) (by decide) (by decide) (by decide) (by decide)) (xr 14 (by decide) (by decide) (by decide) (by decide) (by decide)) (xr 15 (by decide) (by decide) (by decide) (by decide) (by decide))]
    exact h.wrg d d0 d1
end RCW
