/-! LAYING A VEIN OUT: what the class writes, what the reference writes -/
theorem ex_succ (P : Nat → Prop) (n : Nat) : (∃ k : Nat, k < n + 1 ∧ P k) ↔ ((∃ k : Nat, k < n ∧ P k) ∨ P n) := by
  constructor
  · rintro ⟨k, h1, h2⟩
    by_cases e : k = n
    · subst e; exact Or.inr h2
    · exact Or.inl ⟨k, by omega, h2⟩
  · rintro (⟨k, h1, h2⟩ | h)
    · exact ⟨k, by omega, h2⟩
    · exact ⟨n, by omega, h⟩
theorem ff_iff (P : Int → Prop) [DecidablePred P] : ∀ n : Nat, ff P n ≠ -1 ↔ ∃ k : Nat, k < n ∧ P (k : Int)
  | 0 => ⟨fun h => absurd rfl h, fun ⟨k, h, _⟩ => absurd h (by omega)⟩
  | n + 1 => by
    rw [ex_succ (fun k => P (k : Int)) n, ← ff_iff P n, ff]
    by_cases e : ff P n ≠ -1
    · rw [if_pos e]; exact ⟨fun h => Or.inl h, fun _ => e⟩
    · rw [if_neg e]
      by_cases q : P (n : Int)
      · rw [if_pos q]; exact ⟨fun _ => Or.inr q, fun _ => by omega⟩
      · rw [if_neg q]; exact ⟨fun h => absurd rfl h, fun h => h.elim (fun z => absurd z e) (fun z => absurd z q)⟩
/-- the spot of the n-th step -/
def vpt (x y dx dy : Int) (n : Nat) : Int := (y + (n : Int) * dy) * 20 + (x + (n : Int) * dx)
theorem rse_in {z : CS} {v x y lv j : Int} (q : inF x y) (e : j = v * 400 + (y * 20 + x)) : (rse z v x y lv).2 2 j = max (z.2 2 j) lv := by
  unfold rse
  rw [if_pos q]
  show upZ (z.2 2) (v * 400 + (y * 20 + x)) (max (z.2 2 (v * 400 + (y * 20 + x))) lv) j = _
  rw [e, upZ_same]
theorem rse_out {z : CS} {v x y lv j : Int} (q : ¬ (inF x y ∧ j = v * 400 + (y * 20 + x))) : (rse z v x y lv).2 2 j = z.2 2 j := by
  unfold rse
  by_cases w : inF x y
  · rw [if_pos w]
    exact upZ_ne (fun e => q ⟨w, e⟩)
  · rw [if_neg w]
theorem rse_row (z : CS) (v x y lv : Int) : (rse z v x y lv).1 = z.1 ∧ ∀ k : Nat, k ≠ 2 → (rse z v x y lv).2 k = z.2 k := by
  unfold rse
  by_cases w : inF x y
  · rw [if_pos w]; exact ⟨rfl, fun k hk => sA_ne hk⟩
  · rw [if_neg w]; exact ⟨rfl, fun _ _ => rfl⟩
theorem cov5_row (z : CS) (v x y : Int) : (cov5 z v x y).1 = z.1 ∧ ∀ k : Nat, k ≠ 2 → (cov5 z v x y).2 k = z.2 k := by
  unfold cov5
  refine ⟨?_, fun k hk => ?_⟩
  · rw [(rse_row _ v x (y + 1) 1).1, (rse_row _ v x (y - 1) 1).1, (rse_row _ v (x + 1) y 1).1, (rse_row _ v (x - 1) y 1).1, (rse_row _ v x y 2).1]
  · rw [(rse_row _ v x (y + 1) 1).2 k hk, (rse_row _ v x (y - 1) 1).2 k hk, (rse_row _ v (x + 1) y 1).2 k hk, (rse_row _ v (x - 1) y 1).2 k hk, (rse_row _ v x y 2).2 k hk]
theorem cov_row (z : CS) (v x y : Int) : (cov z v x y).1 = z.1 ∧ ∀ k : Nat, k ≠ 2 → k ≠ 3 → k ≠ 4 → (cov z v x y).2 k = z.2 k := by
  have h := cov5_row z v x y
  unfold cov covW
  refine ⟨h.1, fun k h2 h3 h4 => ?_⟩
  rw [sA_ne h4, sA_ne h3]
  exact h.2 k h2
theorem cov_3 (z : CS) (v x y : Int) : (cov z v x y).2 3 = upZ (z.2 3) (y * 20 + x) (z.2 3 (y * 20 + x) + z.2 1 v) := by
  have h := cov5_row z v x y
  unfold cov covW
  show upZ ((cov5 z v x y).2 3) (y * 20 + x) ((cov5 z v x y).2 3 (y * 20 + x) + (cov5 z v x y).2 1 v) = _
  rw [h.2 3 (by decide), h.2 1 (by decide)]
theorem cov_4 (z : CS) (v x y : Int) : (cov z v x y).2 4 = upZ (z.2 4) (y * 20 + x) (shlw z v (y * 20 + x)) := by
  have h := cov5_row z v x y
  unfold cov covW
  show upZ ((cov5 z v x y).2 4) (y * 20 + x) (shlw (cov5 z v x y) v (y * 20 + x)) = _
  unfold shlw
  rw [h.2 4 (by decide), h.2 0 (by decide)]
theorem cov_2_out {z : CS} {v x y j : Int} (hj : j < v * 400 ∨ v * 400 + 400 ≤ j) : (cov z v x y).2 2 j = z.2 2 j := by
  show (cov5 z v x y).2 2 j = z.2 2 j
  unfold cov5
  rw [rse_out (by omega), rse_out (by omega), rse_out (by omega), rse_out (by omega), rse_out (by omega)]
theorem cov_2_in {z : CS} {v x y p : Int} (hi : inF x y) (hp : 0 ≤ p ∧ p < 400) (h0 : 0 ≤ z.2 2 (v * 400 + p)) : (p = y * 20 + x ∧ (cov z v x y).2 2 (v * 400 + p) = max (z.2 2 (v * 400 + p)) 2) ∨ (p ≠ y * 20 + x ∧ dist (y * 20 + x) p = 1 ∧ (cov z v x y).2 2 (v * 400 + p) = max (z.2 2 (v * 400 + p)) 1) ∨ (p ≠ y * 20 + x ∧ dist (y * 20 + x) p ≠ 1 ∧ (cov z v x y).2 2 (v * 400 + p) = z.2 2 (v * 400 + p)) := by
  have a1 := ab_cs ((y * 20 + x) % 20 - p % 20)
  have a2 := ab_cs ((y * 20 + x) / 20 - p / 20)
  have hd : dist (y * 20 + x) p = ab ((y * 20 + x) % 20 - p % 20) + ab ((y * 20 + x) / 20 - p / 20) := rfl
  rw [show (y * 20 + x) % 20 = x by omega] at a1 hd
  rw [show (y * 20 + x) / 20 = y by omega] at a2 hd
  rw [hd]
  show _ ∨ (_ ∧ _ ∧ (cov5 z v x y).2 2 (v * 400 + p) = _) ∨ (_ ∧ _ ∧ (cov5 z v x y).2 2 (v * 400 + p) = _)
  unfold cov5
  by_cases e0 : p % 20 = x ∧ p / 20 = y
  · refine Or.inl ⟨by omega, ?_⟩
    show (cov5 z v x y).2 2 (v * 400 + p) = _
    unfold cov5
    rw [rse_out (by omega), rse_out (by omega), rse_out (by omega), rse_out (by omega), rse_in (by omega) (by omega)]
  by_cases e1 : p % 20 = x - 1 ∧ p / 20 = y
  · refine Or.inr (Or.inl ⟨by omega, by omega, ?_⟩)
    rw [rse_out (by omega), rse_out (by omega), rse_out (by omega), rse_in (by omega) (by omega), rse_out (by omega)]
  by_cases e2 : p % 20 = x + 1 ∧ p / 20 = y
  · refine Or.inr (Or.inl ⟨by omega, by omega, ?_⟩)
    rw [rse_out (by omega), rse_out (by omega), rse_in (by omega) (by omega), rse_out (by omega), rse_out (by omega)]
  by_cases e3 : p % 20 = x ∧ p / 20 = y - 1
  · refine Or.inr (Or.inl ⟨by omega, by omega, ?_⟩)
    rw [rse_out (by omega), rse_in (by omega) (by omega), rse_out (by omega), rse_out (by omega), rse_out (by omega)]
  by_cases e4 : p % 20 = x ∧ p / 20 = y + 1
  · refine Or.inr (Or.inl ⟨by omega, by omega, ?_⟩)
    rw [rse_in (by omega) (by omega), rse_out (by omega), rse_out (by omega), rse_out (by omega), rse_out (by omega)]
  refine Or.inr (Or.inr ⟨by omega, by omega, ?_⟩)
  rw [rse_out (by omega), rse_out (by omega), rse_out (by omega), rse_out (by omega), rse_out (by omega)]
section LY
variable {z : CS} {v x y dx dy : Int}
theorem lay_row (z : CS) (v x y dx dy : Int) : ∀ n : Nat, (lay z v x y dx dy n).1 = z.1 ∧ (∀ k : Nat, k ≠ 2 → k ≠ 3 → k ≠ 4 → (lay z v x y dx dy n).2 k = z.2 k) ∧ ∀ j : Int, (j < v * 400 ∨ v * 400 + 400 ≤ j) → (lay z v x y dx dy n).2 2 j = z.2 2 j
  | 0 => ⟨rfl, fun _ _ _ _ => rfl, fun _ _ => rfl⟩
  | n + 1 => by
    have h := lay_row z v x y dx dy n
    have h1 := cov_row (lay z v x y dx dy n) v (x + (n : Int) * dx) (y + (n : Int) * dy)
    refine ⟨h1.1.trans h.1, fun k k2 k3 k4 => (h1.2 k k2 k3 k4).trans (h.2.1 k k2 k3 k4), fun j hj => ?_⟩
    exact (cov_2_out hj).trans (h.2.2 j hj)
theorem lay_2 {N : Nat} (hin : ∀ k : Nat, k < N → inF (x + (k : Int) * dx) (y + (k : Int) * dy)) (hz : ∀ p : Int, 0 ≤ p → p < 400 → z.2 2 (v * 400 + p) = 0) : ∀ n : Nat, n ≤ N → ∀ p : Int, 0 ≤ p → p < 400 → (0 ≤ (lay z v x y dx dy n).2 2 (v * 400 + p) ∧ (lay z v x y dx dy n).2 2 (v * 400 + p) ≤ 2) ∧ ((lay z v x y dx dy n).2 2 (v * 400 + p) = 2 ↔ ∃ k : Nat, k < n ∧ vpt x y dx dy k = p) ∧ (1 ≤ (lay z v x y dx dy n).2 2 (v * 400 + p) ↔ ∃ k : Nat, k < n ∧ (vpt x y dx dy k = p ∨ dist (vpt x y dx dy k) p = 1))
  | 0, _, p, h0, h1 => by
    have e := hz p h0 h1
    show (0 ≤ z.2 2 (v * 400 + p) ∧ z.2 2 (v * 400 + p) ≤ 2) ∧ (z.2 2 (v * 400 + p) = 2 ↔ _) ∧ (1 ≤ z.2 2 (v * 400 + p) ↔ _)
    rw [e]
    exact ⟨by omega, ⟨fun q => absurd q (by decide), fun ⟨k, hk, _⟩ => absurd hk (by omega)⟩, ⟨fun q => absurd q (by decide), fun ⟨k, hk, _⟩ => absurd hk (by omega)⟩⟩
  | n + 1, hn, p, h0, h1 => by
    obtain ⟨i1, i2, i3⟩ := lay_2 hin hz n (by omega) p h0 h1
    have hc := cov_2_in (z := lay z v x y dx dy n) (v := v) (hin n (by omega)) ⟨h0, h1⟩ i1.1
    rw [ex_succ (fun k => vpt x y dx dy k = p) n, ex_succ (fun k => vpt x y dx dy k = p ∨ dist (vpt x y dx dy k) p = 1) n, ← i2, ← i3]
    show (0 ≤ (cov (lay z v x y dx dy n) v (x + (n : Int) * dx) (y + (n : Int) * dy)).2 2 (v * 400 + p) ∧ (cov (lay z v x y dx dy n) v (x + (n : Int) * dx) (y + (n : Int) * dy)).2 2 (v * 400 + p) ≤ 2) ∧ ((cov (lay z v x y dx dy n) v (x + (n : Int) * dx) (y + (n : Int) * dy)).2 2 (v * 400 + p) = 2 ↔ _) ∧ (1 ≤ (cov (lay z v x y dx dy n) v (x + (n : Int) * dx) (y + (n : Int) * dy)).2 2 (v * 400 + p) ↔ _)
    have hv : vpt x y dx dy n = (y + (n : Int) * dy) * 20 + (x + (n : Int) * dx) := rfl
    rw [hv]
    generalize (y + (n : Int) * dy) * 20 + (x + (n : Int) * dx) = f at hc ⊢
    generalize (cov (lay z v x y dx dy n) v (x + (n : Int) * dx) (y + (n : Int) * dy)).2 2 (v * 400 + p) = V at hc ⊢
    generalize (lay z v x y dx dy n).2 2 (v * 400 + p) = V0 at hc i1 ⊢
    generalize dist f p = d at hc ⊢
    omega
theorem lay_34 {N : Nat} (hinj : ∀ i j : Nat, i < j → j < N → vpt x y dx dy i ≠ vpt x y dx dy j) : ∀ n : Nat, n ≤ N → ∀ p : Int, ((∃ k : Nat, k < n ∧ vpt x y dx dy k = p) → (lay z v x y dx dy n).2 3 p = z.2 3 p + z.2 1 v ∧ (lay z v x y dx dy n).2 4 p = shlw z v p) ∧ ((¬ ∃ k : Nat, k < n ∧ vpt x y dx dy k = p) → (lay z v x y dx dy n).2 3 p = z.2 3 p ∧ (lay z v x y dx dy n).2 4 p = z.2 4 p)
  | 0, _, p => ⟨fun ⟨k, hk, _⟩ => absurd hk (by omega), fun _ => ⟨rfl, rfl⟩⟩
  | n + 1, hn, p => by
    obtain ⟨i1, i2⟩ := lay_34 hinj n (by omega) p
    have hr := lay_row z v x y dx dy n
    have e3 := cov_3 (lay z v x y dx dy n) v (x + (n : Int) * dx) (y + (n : Int) * dy)
    have e4 := cov_4 (lay z v x y dx dy n) v (x + (n : Int) * dx) (y + (n : Int) * dy)
    have hv : vpt x y dx dy n = (y + (n : Int) * dy) * 20 + (x + (n : Int) * dx) := rfl
    rw [ex_succ (fun k => vpt x y dx dy k = p) n]
    show (_ → (cov (lay z v x y dx dy n) v (x + (n : Int) * dx) (y + (n : Int) * dy)).2 3 p = _ ∧ (cov (lay z v x y dx dy n) v (x + (n : Int) * dx) (y + (n : Int) * dy)).2 4 p = _) ∧ (_ → (cov (lay z v x y dx dy n) v (x + (n : Int) * dx) (y + (n : Int) * dy)).2 3 p = _ ∧ (cov (lay z v x y dx dy n) v (x + (n : Int) * dx) (y + (n : Int) * dy)).2 4 p = _)
    rw [e3, e4, ← hv]
    by_cases e : p = vpt x y dx dy n
    · have hno : ¬ ∃ k : Nat, k < n ∧ vpt x y dx dy k = p := fun ⟨k, hk, hk2⟩ => hinj k n hk (by omega) (hk2.trans e)
      obtain ⟨j3, j4⟩ := i2 hno
      rw [← e, upZ_same, upZ_same, j3, hr.2.1 1 (by decide) (by decide) (by decide)]
      refine ⟨fun _ => ⟨rfl, ?_⟩, fun h => absurd (Or.inr rfl) h⟩
      unfold shlw
      rw [j4, hr.2.1 0 (by decide) (by decide) (by decide)]
    · rw [upZ_ne e, upZ_ne e]
      exact ⟨fun h => i1 (h.elim id (fun w => absurd w.symm e)), fun h => i2 (fun w => h (Or.inl w))⟩
end LY
/-! the reference -/
theorem mL1_hit {c : CS} {v fr by9 : Int} : ∀ (n : Nat) (j : Int), ((∃ k : Nat, k < n ∧ (400 * v + fr) + (k : Int) * by9 = j) → (mL1 c v fr by9 n).2 2 j = 2) ∧ ((¬ ∃ k : Nat, k < n ∧ (400 * v + fr) + (k : Int) * by9 = j) → (mL1 c v fr by9 n).2 2 j = c.2 2 j)
  | 0, j => ⟨fun ⟨k, hk, _⟩ => absurd hk (by omega), fun _ => rfl⟩
  | n + 1, j => by
    obtain ⟨i1, i2⟩ := mL1_hit (c := c) (v := v) (fr := fr) (by9 := by9) n j
    rw [ex_succ (fun k => (400 * v + fr) + (k : Int) * by9 = j) n]
    show (_ → upZ ((mL1 c v fr by9 n).2 2) ((400 * v + fr) + (n : Int) * by9) 2 j = 2) ∧ (_ → upZ ((mL1 c v fr by9 n).2 2) ((400 * v + fr) + (n : Int) * by9) 2 j = c.2 2 j)
    by_cases e : j = (400 * v + fr) + (n : Int) * by9
    · rw [← e, upZ_same]
      exact ⟨fun _ => rfl, fun h => absurd (Or.inr rfl) h⟩
    · rw [upZ_ne e]
      exact ⟨fun h => i1 (h.elim id (fun w => absurd w.symm e)), fun h => i2 (fun w => h (Or.inl w))⟩
/-- beside the vein, for the rows that mL2 comes to -/
theorem mL2_at {z : CS} {v : Int} : ∀ (n : Nat) (j : Int), (((400 * v ≤ j ∧ j < 400 * v + n) ∧ z.2 2 j = 0 ∧ isBes z v (j - 400 * v)) → (mL2 z v n).2 2 j = 1) ∧ (¬ ((400 * v ≤ j ∧ j < 400 * v + n) ∧ z.2 2 j = 0 ∧ isBes z v (j - 400 * v)) → (mL2 z v n).2 2 j = z.2 2 j)
  | 0, j => ⟨fun h => absurd h.1 (by omega), fun _ => rfl⟩
  | n + 1, j => by
    obtain ⟨i1, i2⟩ := mL2_at (z := z) (v := v) n j
    have g := mL2_at (z := z) (v := v) n
    have h2 : ∀ k : Int, (mL2 z v n).2 2 k = 2 ↔ z.2 2 k = 2 := fun k => by
      obtain ⟨g1, g2⟩ := g k
      by_cases e : (400 * v ≤ k ∧ k < 400 * v + (n : Int)) ∧ z.2 2 k = 0 ∧ isBes z v (k - 400 * v)
      · rw [g1 e, e.2.1]; omega
      · rw [g2 e]
    have hb : ∀ k : Int, isBes (mL2 z v n) v k ↔ isBes z v k := fun k => by
      show ff (besP (mL2 z v n) v k) 400 ≠ -1 ↔ ff (besP z v k) 400 ≠ -1
      rw [ff_congr (P := besP (mL2 z v n) v k) (P' := besP z v k) 400 (fun i _ _ => by
        show ((mL2 z v n).2 2 (400 * v + i) = 2 ∧ dist i k = 1) ↔ (z.2 2 (400 * v + i) = 2 ∧ dist i k = 1)
        rw [h2])]
    have hn : (mL2 z v n).2 2 (400 * v + (n : Int)) = z.2 2 (400 * v + (n : Int)) := (g (400 * v + (n : Int))).2 (by omega)
    rw [mL2]
    by_cases q : (mL2 z v n).2 2 (400 * v + (n : Int)) = 0 ∧ isBes (mL2 z v n) v (n : Int)
    · rw [if_pos q]
      rw [hn, hb] at q
      show (_ → upZ ((mL2 z v n).2 2) (400 * v + (n : Int)) 1 j = 1) ∧ (_ → upZ ((mL2 z v n).2 2) (400 * v + (n : Int)) 1 j = z.2 2 j)
      by_cases e : j = 400 * v + (n : Int)
      · have e2 : j - 400 * v = (n : Int) := by omega
        rw [e2, e, upZ_same]
        exact ⟨fun _ => rfl, fun h => absurd ⟨by omega, q⟩ h⟩
      · rw [upZ_ne e]
        exact ⟨fun h => i1 ⟨by omega, h.2⟩, fun h => i2 (fun w => h ⟨by omega, w.2⟩)⟩
    · rw [if_neg q]
      rw [hn, hb] at q
      by_cases e : j = 400 * v + (n : Int)
      · have e2 : j - 400 * v = (n : Int) := by omega
        refine ⟨fun h => absurd ?_ q, fun _ => i2 (by omega)⟩
        rw [e2, e] at h
        exact h.2
      · exact ⟨fun h => i1 ⟨by omega, h.2⟩, fun h => i2 (fun w => h ⟨by omega, w.2⟩)⟩
