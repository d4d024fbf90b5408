/-! A WALK AS A WHOLE -/
theorem wk_ax (x tx : Int) : (sgn (tx - x) = 1 ∧ acr x tx = 1 ∧ (((ab (tx - x)).toNat : Nat) : Int) = tx - x) ∨ (sgn (tx - x) = 0 ∧ acr x tx = 1 ∧ (((ab (tx - x)).toNat : Nat) : Int) = 0 ∧ tx = x) ∨ (sgn (tx - x) = -1 ∧ acr x tx = -1 ∧ (((ab (tx - x)).toNat : Nat) : Int) = x - tx) := by
  have h := ab_cs (tx - x)
  have h1 : (sgn (tx - x) = 1 ∧ 0 < tx - x) ∨ (sgn (tx - x) = 0 ∧ tx - x = 0) ∨ (sgn (tx - x) = -1 ∧ tx - x < 0) := by unfold sgn; omega
  have h2 : (acr x tx = -1 ∧ tx < x) ∨ (acr x tx = 1 ∧ ¬ tx < x) := by unfold acr; omega
  omega
section RC7
variable {B : Int} {c m : CS}
theorem RR.k_walk (h0 : RR c m) (hM0 : IM B m) {d : Int} (hd : 0 ≤ d ∧ d < 5) {x y tx ty : Int} (h1 : inF x y) (h2 : inF tx ty) : RR (walkC c d x y tx ty) (mWkC m d x y tx ty) ∧ walkR c d x y tx ty = mWkR m d x y tx ty := by
  have h := h0.th 0
  have hM : IM B (sS m 0 0) := hM0.n0
  have hx := wk_ax x tx
  have hy := wk_ax y ty
  have hax := ab_cs (tx - x)
  have hay := ab_cs (ty - y)
  obtain ⟨N1, hN1⟩ : ∃ n : Nat, n = (ab (tx - x)).toNat := ⟨_, rfl⟩
  obtain ⟨N2, hN2⟩ : ∃ n : Nat, n = (ab (ty - y)).toNat := ⟨_, rfl⟩
  rw [← hN1] at hx
  rw [← hN2] at hy
  have a1 := h.k_wk hM hd (w1 x y tx) (m1 x y tx) N1 (fun k hk => by
    show y * 20 + (x + (k : Int) * sgn (tx - x)) = 20 * y + (x + acr x tx * (k : Int)) ∧ 0 ≤ y * 20 + (x + (k : Int) * sgn (tx - x)) ∧ y * 20 + (x + (k : Int) * sgn (tx - x)) < 400
    rcases hx with ⟨e1, e2, e3⟩ | ⟨e1, e2, e3, e4⟩ | ⟨e1, e2, e3⟩ <;> rw [e1, e2] <;> omega)
  have hMA : IM B (mwC (sS m 0 0) d (m1 x y tx) N1) := mwC_IM hM hd (m1 x y tx) N1
  have c1 : w1 x y tx N1 = m2 y tx ty 0 := by
    show y * 20 + (x + (N1 : Int) * sgn (tx - x)) = 20 * (y + acr y ty * ((0 : Nat) : Int)) + tx
    rcases hx with ⟨e1, e2, e3⟩ | ⟨e1, e2, e3, e4⟩ | ⟨e1, e2, e3⟩ <;> rw [e1] <;> simp <;> omega
  have c2 : 0 ≤ m2 y tx ty 0 ∧ m2 y tx ty 0 < 400 := by
    show 0 ≤ 20 * (y + acr y ty * ((0 : Nat) : Int)) + tx ∧ 20 * (y + acr y ty * ((0 : Nat) : Int)) + tx < 400
    simp
    omega
  have c3 : m2 y tx ty N2 = 20 * ty + tx := by
    show 20 * (y + acr y ty * (N2 : Int)) + tx = 20 * ty + tx
    rcases hy with ⟨e1, e2, e3⟩ | ⟨e1, e2, e3, e4⟩ | ⟨e1, e2, e3⟩ <;> rw [e2] <;> omega
  have b1 := a1.1.k_mrk hMA d hd c2
  have b2 := b1.k_wk (mMkC_IM hMA hd) hd (w2 y tx ty) (fun k => m2 y tx ty (k + 1)) N2 (fun k hk => by
    show (y + ((k : Int) + 1) * sgn (ty - y)) * 20 + tx = 20 * (y + acr y ty * ((k + 1 : Nat) : Int)) + tx ∧ 0 ≤ (y + ((k : Int) + 1) * sgn (ty - y)) * 20 + tx ∧ (y + ((k : Int) + 1) * sgn (ty - y)) * 20 + tx < 400
    rcases hy with ⟨e1, e2, e3⟩ | ⟨e1, e2, e3, e4⟩ | ⟨e1, e2, e3⟩ <;> rw [e1, e2] <;> omega)
  have s1 := mw_shift (mwC (sS m 0 0) d (m1 x y tx) N1) d (m2 y tx ty) N2
  have eN : (ab (tx - x) + 1).toNat = N1 + 1 := by omega
  unfold walkC walkR walkA mWkC mWkR mWkB mWkA
  rw [eN, ← hN1, ← hN2]
  have e5 : wkC c d (w1 x y tx) (N1 + 1) = mrkC (wkC c d (w1 x y tx) N1) d (m2 y tx ty 0) := by rw [← c1]; rfl
  have e6 : mMkC (mwC (mwC (sS m 0 0) d (m1 x y tx) N1) d (m2 y tx ty) N2) d (20 * ty + tx) = mwC (mwC (sS m 0 0) d (m1 x y tx) N1) d (m2 y tx ty) (N2 + 1) := by rw [← c3]; rfl
  have e7 : mwR (mwC (sS m 0 0) d (m1 x y tx) N1) d (m2 y tx ty) N2 + b01 (mMk (mwC (mwC (sS m 0 0) d (m1 x y tx) N1) d (m2 y tx ty) N2) d (20 * ty + tx)) = mwR (mwC (sS m 0 0) d (m1 x y tx) N1) d (m2 y tx ty) (N2 + 1) := by rw [← c3]; rfl
  have e8 : wkR c d (w1 x y tx) (N1 + 1) = wkR c d (w1 x y tx) N1 + b01 (mrk (wkC c d (w1 x y tx) N1) d (m2 y tx ty 0)) := by rw [← c1]; rfl
  rw [e5, e6, e8, ← s1.1]
  refine ⟨b2.1, ?_⟩
  have e9 := e7.trans s1.2.symm
  rw [b2.2, a1.2, b01_congr (a1.1.e_mrk hMA d c2)]
  omega
end RC7
