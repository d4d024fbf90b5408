/-! A NEW VEIN: the relation is kept -/
theorem pb_same {c x : CS} (h5 : x.1 5 = c.1 5) (h12 : x.2 12 = c.2 12) (h13 : x.2 13 = c.2 13) (h14 : x.2 14 = c.2 14) (h15 : x.2 15 = c.2 15) (d rt : Int) : pbets x d rt = pbets c d rt := by
  unfold pbets
  rw [h5]
  refine sm_congr _ (fun q _ _ => ?_)
  have ef : fnd x q ↔ fnd c q := by show (0 < x.2 12 q ∧ x.2 12 q ≤ x.2 13 q) ↔ (0 < c.2 12 q ∧ c.2 12 q ≤ c.2 13 q); rw [h12, h13]
  have eo : over x q ↔ over c q := by show (fnd x q ∨ 20 ≤ x.2 13 q) ↔ (fnd c q ∨ 20 ≤ c.2 13 q); rw [ef, h13]
  show b01 ((over x q ∧ 0 < x.2 14 (q * 5 + d)) ∧ b01 (x.2 15 (q * 5 + d) = b01 (fnd x q)) = rt) = b01 ((over c q ∧ 0 < c.2 14 (q * 5 + d)) ∧ b01 (c.2 15 (q * 5 + d) = b01 (fnd c q)) = rt)
  rw [h14, h15, b01_congr ef]
  exact b01_congr ⟨fun z => ⟨⟨eo.mp z.1.1, z.1.2⟩, z.2⟩, fun z => ⟨⟨eo.mpr z.1.1, z.1.2⟩, z.2⟩⟩
theorem sgn_cs (z : Int) : (sgn z = 1 ∧ 0 < z) ∨ (sgn z = 0 ∧ z = 0) ∨ (sgn z = -1 ∧ z < 0) := by unfold sgn; omega
theorem mst_eq {x y tx ty : Int} (h1 : inF x y) (h2 : inF tx ty) : mst (20 * y + x) (20 * ty + tx) = max (ab (tx - x)) (ab (ty - y)) := by
  unfold mst
  rw [show (20 * ty + tx) % 20 = tx by omega, show (20 * y + x) % 20 = x by omega, show (20 * ty + tx) / 20 = ty by omega, show (20 * y + x) / 20 = y by omega]
theorem mby_eq {x y tx ty : Int} (h1 : inF x y) (h2 : inF tx ty) (h3 : strt x y tx ty) : mby (20 * y + x) (20 * ty + tx) (mst (20 * y + x) (20 * ty + tx)) = 20 * sgn (ty - y) + sgn (tx - x) := by
  rw [mst_eq h1 h2]
  have a1 := ab_cs (tx - x)
  have a2 := ab_cs (ty - y)
  have s1 := sgn_cs (tx - x)
  have s2 := sgn_cs (ty - y)
  obtain ⟨st, hst⟩ : ∃ st, st = max (ab (tx - x)) (ab (ty - y)) := ⟨_, rfl⟩
  rw [← hst]
  have h3 : x = tx ∨ y = ty ∨ ab (tx - x) = ab (ty - y) := h3
  have key : ∀ w : Int, (20 * ty + tx) - (20 * y + x) = st * w → (st = 0 → w = 0) → mby (20 * y + x) (20 * ty + tx) st = w := by
    intro w hw hb
    unfold mby
    by_cases e : st = 0
    · rw [if_pos e, hb e]
    · rw [if_neg e, hw, Int.mul_tdiv_cancel_left _ e]
  rcases s1 with ⟨e1, s1⟩ | ⟨e1, s1⟩ | ⟨e1, s1⟩ <;> rcases s2 with ⟨e2, s2⟩ | ⟨e2, s2⟩ | ⟨e2, s2⟩ <;> rw [e1, e2]
  · exact key (20 * 1 + 1) (by omega) (by omega)
  · exact key (20 * 0 + 1) (by omega) (by omega)
  · exact key (20 * -1 + 1) (by omega) (by omega)
  · exact key (20 * 1 + 0) (by omega) (by omega)
  · exact key (20 * 0 + 0) (by omega) (by omega)
  · exact key (20 * -1 + 0) (by omega) (by omega)
  · exact key (20 * 1 + -1) (by omega) (by omega)
  · exact key (20 * 0 + -1) (by omega) (by omega)
  · exact key (20 * -1 + -1) (by omega) (by omega)
theorem vpt_eq (x y tx ty : Int) (k : Nat) : vpt x y (sgn (tx - x)) (sgn (ty - y)) k = (20 * y + x) + (k : Int) * (20 * sgn (ty - y) + sgn (tx - x)) := by
  unfold vpt
  rcases sgn_cs (tx - x) with ⟨e1, _⟩ | ⟨e1, _⟩ | ⟨e1, _⟩ <;> rcases sgn_cs (ty - y) with ⟨e2, _⟩ | ⟨e2, _⟩ | ⟨e2, _⟩ <;> rw [e1, e2] <;> omega
theorem vpt_inj {x y tx ty : Int} {N : Nat} (hN : N = layN x y tx ty) (i j : Nat) (hij : i < j) (hj : j < N) : vpt x y (sgn (tx - x)) (sgn (ty - y)) i ≠ vpt x y (sgn (tx - x)) (sgn (ty - y)) j := by
  unfold layN at hN
  have a1 := ab_cs (tx - x)
  have a2 := ab_cs (ty - y)
  unfold vpt
  rcases sgn_cs (tx - x) with ⟨e1, _⟩ | ⟨e1, _⟩ | ⟨e1, _⟩ <;> rcases sgn_cs (ty - y) with ⟨e2, _⟩ | ⟨e2, _⟩ | ⟨e2, _⟩ <;> rw [e1, e2] <;> omega
section RCV
variable {B : Int} {c m : CS}
/-- the reference's row of one vein, as laid out -/
theorem mLay_2 {z : CS} {v fr tt : Int} {f : Nat → Int} {N : Nat} (hN : (mst fr tt + 1).toNat = N) (hf : ∀ k : Nat, k < N → fr + (k : Int) * mby fr tt (mst fr tt) = f k) (hfi : ∀ k : Nat, k < N → 0 ≤ f k ∧ f k < 400) (hz : ∀ p : Int, 0 ≤ p → p < 400 → z.2 2 (400 * v + p) = 0) : (∀ p : Int, 0 ≤ p → p < 400 → (0 ≤ (mLay z v fr tt).2 2 (400 * v + p) ∧ (mLay z v fr tt).2 2 (400 * v + p) ≤ 2) ∧ ((mLay z v fr tt).2 2 (400 * v + p) = 2 ↔ ∃ k : Nat, k < N ∧ f k = p) ∧ (1 ≤ (mLay z v fr tt).2 2 (400 * v + p) ↔ ∃ k : Nat, k < N ∧ (f k = p ∨ dist (f k) p = 1))) ∧ ∀ j : Int, (j < 400 * v ∨ 400 * v + 400 ≤ j) → (mLay z v fr tt).2 2 j = z.2 2 j := by
  unfold mLay
  rw [hN]
  have g1 := mL1_hit (c := z) (v := v) (fr := fr) (by9 := mby fr tt (mst fr tt)) N
  obtain ⟨u, hu⟩ : ∃ u, u = mL1 z v fr (mby fr tt (mst fr tt)) N := ⟨_, rfl⟩
  rw [← hu] at g1 ⊢
  have g2 := mL2_at (z := u) (v := v) 400
  have t1 : ∀ p : Int, (∃ k : Nat, k < N ∧ (400 * v + fr) + (k : Int) * mby fr tt (mst fr tt) = 400 * v + p) ↔ (∃ k : Nat, k < N ∧ f k = p) := fun p =>
    ⟨fun ⟨k, h1, h2⟩ => ⟨k, h1, by have := hf k h1; omega⟩, fun ⟨k, h1, h2⟩ => ⟨k, h1, by have := hf k h1; omega⟩⟩
  have t2 : ∀ p : Int, 0 ≤ p → p < 400 → ((∃ k : Nat, k < N ∧ f k = p) ∧ u.2 2 (400 * v + p) = 2) ∨ ((¬ ∃ k : Nat, k < N ∧ f k = p) ∧ u.2 2 (400 * v + p) = 0) := fun p h0 h1 => by
    obtain ⟨q1, q2⟩ := g1 (400 * v + p)
    rw [t1] at q1 q2
    by_cases e : ∃ k : Nat, k < N ∧ f k = p
    · exact Or.inl ⟨e, q1 e⟩
    · exact Or.inr ⟨e, (q2 e).trans (hz p h0 h1)⟩
  have t3 : ∀ p : Int, isBes u v p ↔ ∃ k : Nat, k < N ∧ dist (f k) p = 1 := fun p => by
    show ff (besP u v p) 400 ≠ -1 ↔ _
    rw [ff_iff]
    constructor
    · rintro ⟨i, hi, h2, h3⟩
      rcases t2 (i : Int) (by omega) (by omega) with ⟨⟨k, hk, hk2⟩, _⟩ | ⟨_, q⟩
      · exact ⟨k, hk, by rw [hk2]; exact h3⟩
      · rw [q] at h2; exact absurd h2 (by decide)
    · rintro ⟨k, hk, h3⟩
      have hb := hfi k hk
      refine ⟨(f k).toNat, by omega, ?_⟩
      rw [show (((f k).toNat : Nat) : Int) = f k by omega]
      rcases t2 (f k) hb.1 hb.2 with ⟨_, q⟩ | ⟨q, _⟩
      · exact ⟨q, h3⟩
      · exact absurd ⟨k, hk, rfl⟩ q
  refine ⟨fun p h0 h1 => ?_, fun j hj => ?_⟩
  · obtain ⟨q1, q2⟩ := g2 (400 * v + p)
    rw [show 400 * v + p - 400 * v = p by omega] at q1 q2
    have e1 : (∃ k : Nat, k < N ∧ (f k = p ∨ dist (f k) p = 1)) ↔ ((∃ k : Nat, k < N ∧ f k = p) ∨ isBes u v p) := by
      rw [t3]
      constructor
      · rintro ⟨k, hk, h | h⟩
        · exact Or.inl ⟨k, hk, h⟩
        · exact Or.inr ⟨k, hk, h⟩
      · rintro (⟨k, hk, h⟩ | ⟨k, hk, h⟩)
        · exact ⟨k, hk, Or.inl h⟩
        · exact ⟨k, hk, Or.inr h⟩
    rw [e1]
    rcases t2 p h0 h1 with ⟨k2, k3⟩ | ⟨k2, k3⟩
    · have e : (mL2 u v 400).2 2 (400 * v + p) = 2 := (q2 (by omega)).trans k3
      rw [e]
      exact ⟨by decide, ⟨fun _ => k2, fun _ => rfl⟩, ⟨fun _ => Or.inl k2, fun _ => by decide⟩⟩
    · by_cases w : isBes u v p
      · have e : (mL2 u v 400).2 2 (400 * v + p) = 1 := q1 ⟨by omega, k3, w⟩
        rw [e]
        exact ⟨by decide, ⟨fun h => absurd h (by decide), fun h => absurd h k2⟩, ⟨fun _ => Or.inr w, fun _ => by decide⟩⟩
      · have e : (mL2 u v 400).2 2 (400 * v + p) = 0 := (q2 (fun z => w z.2.2)).trans k3
        rw [e]
        exact ⟨by decide, ⟨fun h => absurd h (by decide), fun h => absurd h k2⟩, ⟨fun h => absurd h (by decide), fun h => (h.elim k2 w).elim⟩⟩
  · rw [(g2 j).2 (by omega)]
    refine (g1 j).2 ?_
    rintro ⟨k, hk, h2⟩
    have h3 := hf k hk
    have h4 := hfi k hk
    omega
/-- one more vein in the sum of the water, in the least depth -/
theorem mWat_more {m x : CS} {n : Nat} {fl sp : Int} (h1 : x.2 1 = upZ (m.2 1) (n : Int) fl) (h2 : ∀ k : Int, 0 ≤ k → k < n → x.2 2 (400 * k + sp) = m.2 2 (400 * k + sp)) : mWat x sp (n + 1) = mWat m sp n + (if x.2 2 (400 * (n : Int) + sp) = 2 then fl else 0) := by
  unfold mWat
  show sm (fun v => if x.2 2 (400 * v + sp) = 2 then x.2 1 v else 0) n + (if x.2 2 (400 * (n : Int) + sp) = 2 then x.2 1 (n : Int) else 0) = _
  rw [sm_congr (f' := fun v => if m.2 2 (400 * v + sp) = 2 then m.2 1 v else 0) n (fun k k0 k1 => by
    show (if x.2 2 (400 * k + sp) = 2 then x.2 1 k else 0) = (if m.2 2 (400 * k + sp) = 2 then m.2 1 k else 0)
    rw [h2 k k0 k1, h1, upZ_ne (by omega)]), h1, upZ_same]
theorem mDep_more {m x : CS} {N : Nat} {dp sp : Int} (h0 : x.2 0 = upZ (m.2 0) (N : Int) dp) (h2 : ∀ k : Int, 0 ≤ k → k < N → x.2 2 (400 * k + sp) = m.2 2 (400 * k + sp)) : ∀ n : Nat, n ≤ N → mDep x sp n = mDep m sp n
  | 0, _ => rfl
  | n + 1, hn => by
    rw [mDep, mDep, mDep_more h0 h2 n (by omega), h2 (n : Int) (by omega) (by omega), h0, upZ_ne (by omega)]
end RCV
