/-! LEMMAS ABOUT SUMS, FIRST FINDS, THE CLASS'S OWN STATE -/
section S16
variable {B : Int} {c m : CS}
theorem b01_cs (P : Prop) [Decidable P] : (b01 P = 1 ∧ P) ∨ (b01 P = 0 ∧ ¬ P) := by
  by_cases q : P
  · exact Or.inl ⟨b01_t q, q⟩
  · exact Or.inr ⟨b01_f q, q⟩
theorem sm_add (f f' : Int → Int) : ∀ n : Nat, sm (fun k => f k + f' k) n = sm f n + sm f' n
  | 0 => rfl
  | n + 1 => by
    show sm (fun k => f k + f' k) n + (f n + f' n) = (sm f n + f n) + (sm f' n + f' n)
    rw [sm_add f f' n]
    omega
theorem sm_pick (j : Int) (Q : Prop) [Decidable Q] : ∀ n : Nat, sm (fun k => b01 (k = j ∧ Q)) n = b01 ((0 ≤ j ∧ j < n) ∧ Q)
  | 0 => by rw [b01_f (by omega)]; rfl
  | n + 1 => by
    show sm (fun k => b01 (k = j ∧ Q)) n + b01 ((n : Int) = j ∧ Q) = _
    rw [sm_pick j Q n]
    by_cases q : Q
    · rw [b01_congr (P := (0 ≤ j ∧ j < (n : Int)) ∧ Q) (P' := 0 ≤ j ∧ j < (n : Int)) ⟨fun z => z.1, fun z => ⟨z, q⟩⟩, b01_congr (P := (n : Int) = j ∧ Q) (P' := (n : Int) = j) ⟨fun z => z.1, fun z => ⟨z, q⟩⟩, b01_congr (P := (0 ≤ j ∧ j < ((n + 1 : Nat) : Int)) ∧ Q) (P' := 0 ≤ j ∧ j < ((n + 1 : Nat) : Int)) ⟨fun z => z.1, fun z => ⟨z, q⟩⟩]
      have h1 := b01_cs (0 ≤ j ∧ j < (n : Int))
      have h2 := b01_cs ((n : Int) = j)
      have h3 := b01_cs (0 ≤ j ∧ j < ((n + 1 : Nat) : Int))
      omega
    · rw [b01_f (fun z => q z.2), b01_f (fun z => q z.2), b01_f (fun z => q z.2)]
      rfl
theorem dg_congr {f f' : Int → Int} (d : Int64) : ∀ n : Nat, (∀ j : Int, 0 ≤ j → j < n → f j = f' j) → dg f d n = dg f' d n
  | 0, _ => rfl
  | n + 1, h => by
    rw [dg, dg, dg_congr d n (fun j h0 h1 => h j h0 (by omega)), h (n : Int) (by omega) (by omega)]
theorem dgO_congr {f f' : Int → Int → Int} (w : Nat) (d : Int64) : ∀ n : Nat, (∀ i j : Int, 0 ≤ i → i < n → 0 ≤ j → j < w → f i j = f' i j) → dgO f w d n = dgO f' w d n
  | 0, _ => rfl
  | n + 1, h => by
    rw [dgO, dgO, dgO_congr w d n (fun i j h0 h1 => h i j h0 (by omega)), dg_congr _ w (fun j h0 h1 => h (n : Int) j (by omega) (by omega) h0 h1)]
theorem fm_congr {F F' : Int → Int} : ∀ n : Nat, (∀ j : Int, 0 ≤ j → j < n → F j = F' j) → fm F n = fm F' n
  | 0, _ => rfl
  | n + 1, hF => by
    have h1 := fm_congr n (fun j h0 h1 => hF j h0 (by omega))
    have h2 := fm_b F n
    have h3 := hF (n : Int) (by omega) (by omega)
    have h5 : fm F n < ((n + 1 : Nat) : Int) := by
      rcases h2.2 with q | q
      · omega
      · subst q
        show (0 : Int) < ((0 + 1 : Nat) : Int)
        decide
    have h4 := hF (fm F n) h2.1 h5
    show (if F (fm F n) < F (n : Int) then (n : Int) else fm F n) = (if F' (fm F' n) < F' (n : Int) then (n : Int) else fm F' n)
    rw [← h1, h3, h4]
end S16
section S19
variable {B : Int} {c m : CS}
theorem ff_congr {P P' : Int → Prop} [DecidablePred P] [DecidablePred P'] : ∀ n : Nat, (∀ j : Int, 0 ≤ j → j < n → (P j ↔ P' j)) → ff P n = ff P' n
  | 0, _ => rfl
  | n + 1, h => by
    have h1 := ff_congr n (fun j h0 h1 => h j h0 (by omega))
    have h2 := h (n : Int) (by omega) (by omega)
    rw [ff, ff, h1]
    by_cases e : ff P' n ≠ -1
    · rw [if_pos e, if_pos e]
    · rw [if_neg e, if_neg e]
      by_cases q : P (n : Int)
      · rw [if_pos q, if_pos (h2.mp q)]
      · rw [if_neg q, if_neg (fun z => q (h2.mpr z))]
/-- the bets of a new pit are none, so its dowsers' counts stay -/
theorem pb_new {c : CS} {n : Nat} (hn : c.1 5 = n) (w : Int) (d rt : Int) (hz : c.2 14 ((n : Int) * 5 + d) = 0) (z : CS) (hz1 : z.1 5 = c.1 5 + 1) (h12 : z.2 12 = upZ (c.2 12) (n : Int) w) (h13 : z.2 13 = c.2 13) (h14 : z.2 14 = c.2 14) (h15 : z.2 15 = c.2 15) : pbets z d rt = pbets c d rt := by
  unfold pbets
  rw [hz1, hn, show ((n : Int) + 1).toNat = n + 1 by omega, show ((n : Int)).toNat = n by omega]
  show sm _ n + _ = _
  rw [sm_congr (f' := fun q => b01 ((over c q ∧ 0 < c.2 14 (q * 5 + d)) ∧ b01 (c.2 15 (q * 5 + d) = b01 (fnd c q)) = rt)) n (fun q h0 h1 => by
    have e : z.2 12 q = c.2 12 q := by rw [h12, upZ_ne (by omega)]
    have ef : fnd z q ↔ fnd c q := by show (0 < z.2 12 q ∧ z.2 12 q ≤ z.2 13 q) ↔ (0 < c.2 12 q ∧ c.2 12 q ≤ c.2 13 q); rw [e, h13]
    have eo : over z q ↔ over c q := by show (fnd z q ∨ 20 ≤ z.2 13 q) ↔ (fnd c q ∨ 20 ≤ c.2 13 q); rw [ef, h13]
    show b01 ((over z q ∧ 0 < z.2 14 (q * 5 + d)) ∧ b01 (z.2 15 (q * 5 + d) = b01 (fnd z q)) = rt) = b01 ((over c q ∧ 0 < c.2 14 (q * 5 + d)) ∧ b01 (c.2 15 (q * 5 + d) = b01 (fnd c q)) = rt)
    rw [h14, h15, b01_congr ef]
    exact b01_congr ⟨fun t => ⟨⟨eo.mp t.1.1, t.1.2⟩, t.2⟩, fun t => ⟨⟨eo.mpr t.1.1, t.1.2⟩, t.2⟩⟩)]
  show _ + b01 ((over z (n : Int) ∧ 0 < z.2 14 ((n : Int) * 5 + d)) ∧ b01 (z.2 15 ((n : Int) * 5 + d) = b01 (fnd z (n : Int))) = rt) = _
  rw [b01_f (fun t => by have := t.1.2; rw [h14, hz] at this; omega), Int.add_zero]
end S19
section S26
variable {B : Int} {c m : CS}
theorem left_dp (c : CS) (q by9 q2 f : Int) : ∀ n : Nat, left (dpC c q by9) q2 f n = left c q2 f n
  | 0 => rfl
  | n + 1 => by
    rw [left, left, left_dp c q by9 q2 f n, payD_shr, payD_shr]
    rfl
/-- the counts of bets, as one pit q changes from not over to over or not -/
theorem pb_dig {q : Int} {x : CS} (hn : x.1 5 = c.1 5) (hno : ¬ over c q) (h12 : x.2 12 = c.2 12) (h13 : ∀ k : Int, k ≠ q → x.2 13 k = c.2 13 k) (h14 : x.2 14 = c.2 14) (h15 : x.2 15 = c.2 15) (d rt : Int) : pbets x d rt = pbets c d rt + b01 ((0 ≤ q ∧ q < (((c.1 5).toNat : Nat) : Int)) ∧ (over x q ∧ 0 < c.2 14 (q * 5 + d)) ∧ b01 (c.2 15 (q * 5 + d) = b01 (fnd x q)) = rt) := by
  unfold pbets
  rw [hn, ← sm_pick, ← sm_add]
  refine sm_congr _ (fun k k0 k1 => ?_)
  show b01 ((over x k ∧ 0 < x.2 14 (k * 5 + d)) ∧ b01 (x.2 15 (k * 5 + d) = b01 (fnd x k)) = rt) = b01 ((over c k ∧ 0 < c.2 14 (k * 5 + d)) ∧ b01 (c.2 15 (k * 5 + d) = b01 (fnd c k)) = rt) + b01 (k = q ∧ (over x q ∧ 0 < c.2 14 (q * 5 + d)) ∧ b01 (c.2 15 (q * 5 + d) = b01 (fnd x q)) = rt)
  rw [h14, h15]
  by_cases e : k = q
  · subst e
    rw [b01_f (P := (over c k ∧ 0 < c.2 14 (k * 5 + d)) ∧ b01 (c.2 15 (k * 5 + d) = b01 (fnd c k)) = rt) (fun z => hno z.1.1), Int.zero_add]
    exact b01_congr ⟨fun z => ⟨rfl, z⟩, fun z => z.2⟩
  · have ef : fnd x k ↔ fnd c k := by show (0 < x.2 12 k ∧ x.2 12 k ≤ x.2 13 k) ↔ (0 < c.2 12 k ∧ c.2 12 k ≤ c.2 13 k); rw [h12, h13 k e]
    have eo : over x k ↔ over c k := by show (fnd x k ∨ 20 ≤ x.2 13 k) ↔ (fnd c k ∨ 20 ≤ c.2 13 k); rw [ef, h13 k e]
    rw [b01_f (P := k = q ∧ (over x q ∧ 0 < c.2 14 (q * 5 + d)) ∧ b01 (c.2 15 (q * 5 + d) = b01 (fnd x q)) = rt) (fun z => e z.1), Int.add_zero, b01_congr ef]
    exact b01_congr ⟨fun z => ⟨⟨eo.mp z.1.1, z.1.2⟩, z.2⟩, fun z => ⟨⟨eo.mpr z.1.1, z.1.2⟩, z.2⟩⟩
theorem dpC_13 (c : CS) (q by9 : Int) : (dpC c q by9).2 13 = upZ (c.2 13) q (dpn c q by9) := rfl
theorem sS_ne {x : CS} {j k : Nat} {v : Int} (h : k ≠ j) : (sS x j v).1 k = x.1 k := by
  show (bif Nat.beq k j then v else x.1 k) = x.1 k
  rw [show Nat.beq k j = false by (cases hb : Nat.beq k j with | false => rfl | true => exact absurd (Nat.eq_of_beq_eq_true hb) h)]
  rfl
theorem sA_ne {x : CS} {j k : Nat} {F : Int → Int} (h : k ≠ j) : (sA x j F).2 k = x.2 k := by
  show (bif Nat.beq k j then F else x.2 k) = x.2 k
  rw [show Nat.beq k j = false by (cases hb : Nat.beq k j with | false => rfl | true => exact absurd (Nat.eq_of_beq_eq_true hb) h)]
  rfl
end S26
section S27
variable {z : CS} {v x y dx dy : Int}
theorem ex_succ (P : Nat → Prop) (n : Nat) : (∃ k : Nat, k < n + 1 ∧ P k) ↔ ((∃ k : Nat, k < n ∧ P k) ∨ P n) := by
  constructor
  · rintro ⟨k, h1, h2⟩
    by_cases e : k = n
    · subst e; exact Or.inr h2
    · exact Or.inl ⟨k, by omega, h2⟩
  · rintro (⟨k, h1, h2⟩ | h)
    · exact ⟨k, by omega, h2⟩
    · exact ⟨n, by omega, h⟩
theorem ff_iff (P : Int → Prop) [DecidablePred P] : ∀ n : Nat, ff P n ≠ -1 ↔ ∃ k : Nat, k < n ∧ P (k : Int)
  | 0 => ⟨fun h => absurd rfl h, fun ⟨k, h, _⟩ => absurd h (by omega)⟩
  | n + 1 => by
    rw [ex_succ (fun k => P (k : Int)) n, ← ff_iff P n, ff]
    by_cases e : ff P n ≠ -1
    · rw [if_pos e]; exact ⟨fun h => Or.inl h, fun _ => e⟩
    · rw [if_neg e]
      by_cases q : P (n : Int)
      · rw [if_pos q]; exact ⟨fun _ => Or.inr q, fun _ => by omega⟩
      · rw [if_neg q]; exact ⟨fun h => absurd rfl h, fun h => h.elim (fun z => absurd z e) (fun z => absurd z q)⟩
/-- the spot of the n-th step -/
def vpt (x y dx dy : Int) (n : Nat) : Int := (y + (n : Int) * dy) * 20 + (x + (n : Int) * dx)
theorem rse_in {z : CS} {v x y lv j : Int} (q : inF x y) (e : j = v * 400 + (y * 20 + x)) : (rse z v x y lv).2 2 j = max (z.2 2 j) lv := by
  unfold rse
  rw [if_pos q]
  show upZ (z.2 2) (v * 400 + (y * 20 + x)) (max (z.2 2 (v * 400 + (y * 20 + x))) lv) j = _
  rw [e, upZ_same]
theorem rse_out {z : CS} {v x y lv j : Int} (q : ¬ (inF x y ∧ j = v * 400 + (y * 20 + x))) : (rse z v x y lv).2 2 j = z.2 2 j := by
  unfold rse
  by_cases w : inF x y
  · rw [if_pos w]
    exact upZ_ne (fun e => q ⟨w, e⟩)
  · rw [if_neg w]
theorem rse_row (z : CS) (v x y lv : Int) : (rse z v x y lv).1 = z.1 ∧ ∀ k : Nat, k ≠ 2 → (rse z v x y lv).2 k = z.2 k := by
  unfold rse
  by_cases w : inF x y
  · rw [if_pos w]; exact ⟨rfl, fun k hk => sA_ne hk⟩
  · rw [if_neg w]; exact ⟨rfl, fun _ _ => rfl⟩
theorem cov5_row (z : CS) (v x y : Int) : (cov5 z v x y).1 = z.1 ∧ ∀ k : Nat, k ≠ 2 → (cov5 z v x y).2 k = z.2 k := by
  unfold cov5
  refine ⟨?_, fun k hk => ?_⟩
  · rw [(rse_row _ v x (y + 1) 1).1, (rse_row _ v x (y - 1) 1).1, (rse_row _ v (x + 1) y 1).1, (rse_row _ v (x - 1) y 1).1, (rse_row _ v x y 2).1]
  · rw [(rse_row _ v x (y + 1) 1).2 k hk, (rse_row _ v x (y - 1) 1).2 k hk, (rse_row _ v (x + 1) y 1).2 k hk, (rse_row _ v (x - 1) y 1).2 k hk, (rse_row _ v x y 2).2 k hk]
theorem cov_row (z : CS) (v x y : Int) : (cov z v x y).1 = z.1 ∧ ∀ k : Nat, k ≠ 2 → k ≠ 3 → k ≠ 4 → (cov z v x y).2 k = z.2 k := by
  have h := cov5_row z v x y
  unfold cov covW
  refine ⟨h.1, fun k h2 h3 h4 => ?_⟩
  rw [sA_ne h4, sA_ne h3]
  exact h.2 k h2
theorem cov_3 (z : CS) (v x y : Int) : (cov z v x y).2 3 = upZ (z.2 3) (y * 20 + x) (z.2 3 (y * 20 + x) + z.2 1 v) := by
  have h := cov5_row z v x y
  unfold cov covW
  show upZ ((cov5 z v x y).2 3) (y * 20 + x) ((cov5 z v x y).2 3 (y * 20 + x) + (cov5 z v x y).2 1 v) = _
  rw [h.2 3 (by decide), h.2 1 (by decide)]
theorem cov_4 (z : CS) (v x y : Int) : (cov z v x y).2 4 = upZ (z.2 4) (y * 20 + x) (shlw z v (y * 20 + x)) := by
  have h := cov5_row z v x y
  unfold cov covW
  show upZ ((cov5 z v x y).2 4) (y * 20 + x) (shlw (cov5 z v x y) v (y * 20 + x)) = _
  unfold shlw
  rw [h.2 4 (by decide), h.2 0 (by decide)]
theorem cov_2_out {z : CS} {v x y j : Int} (hj : j < v * 400 ∨ v * 400 + 400 ≤ j) : (cov z v x y).2 2 j = z.2 2 j := by
  show (cov5 z v x y).2 2 j = z.2 2 j
  unfold cov5
  rw [rse_out (by omega), rse_out (by omega), rse_out (by omega), rse_out (by omega), rse_out (by omega)]
theorem cov_2_in {z : CS} {v x y p : Int} (hi : inF x y) (hp : 0 ≤ p ∧ p < 400) (h0 : 0 ≤ z.2 2 (v * 400 + p)) : (p = y * 20 + x ∧ (cov z v x y).2 2 (v * 400 + p) = max (z.2 2 (v * 400 + p)) 2) ∨ (p ≠ y * 20 + x ∧ dist (y * 20 + x) p = 1 ∧ (cov z v x y).2 2 (v * 400 + p) = max (z.2 2 (v * 400 + p)) 1) ∨ (p ≠ y * 20 + x ∧ dist (y * 20 + x) p ≠ 1 ∧ (cov z v x y).2 2 (v * 400 + p) = z.2 2 (v * 400 + p)) := by
  have a1 := ab_cs ((y * 20 + x) % 20 - p % 20)
  have a2 := ab_cs ((y * 20 + x) / 20 - p / 20)
  have hd : dist (y * 20 + x) p = ab ((y * 20 + x) % 20 - p % 20) + ab ((y * 20 + x) / 20 - p / 20) := rfl
  rw [show (y * 20 + x) % 20 = x by omega] at a1 hd
  rw [show (y * 20 + x) / 20 = y by omega] at a2 hd
  rw [hd]
  show _ ∨ (_ ∧ _ ∧ (cov5 z v x y).2 2 (v * 400 + p) = _) ∨ (_ ∧ _ ∧ (cov5 z v x y).2 2 (v * 400 + p) = _)
  unfold cov5
  by_cases e0 : p % 20 = x ∧ p / 20 = y
  · refine Or.inl ⟨by omega, ?_⟩
    show (cov5 z v x y).2 2 (v * 400 + p) = _
    unfold cov5
    rw [rse_out (by omega), rse_out (by omega), rse_out (by omega), rse_out (by omega), rse_in (by omega) (by omega)]
  by_cases e1 : p % 20 = x - 1 ∧ p / 20 = y
  · refine Or.inr (Or.inl ⟨by omega, by omega, ?_⟩)
    rw [rse_out (by omega), rse_out (by omega), rse_out (by omega), rse_in (by omega) (by omega), rse_out (by omega)]
  by_cases e2 : p % 20 = x + 1 ∧ p / 20 = y
  · refine Or.inr (Or.inl ⟨by omega, by omega, ?_⟩)
    rw [rse_out (by omega), rse_out (by omega), rse_in (by omega) (by omega), rse_out (by omega), rse_out (by omega)]
  by_cases e3 : p % 20 = x ∧ p / 20 = y - 1
  · refine Or.inr (Or.inl ⟨by omega, by omega, ?_⟩)
    rw [rse_out (by omega), rse_in (by omega) (by omega), rse_out (by omega), rse_out (by omega), rse_out (by omega)]
  by_cases e4 : p % 20 = x ∧ p / 20 = y + 1
  · refine Or.inr (Or.inl ⟨by omega, by omega, ?_⟩)
    rw [rse_in (by omega) (by omega), rse_out (by omega), rse_out (by omega), rse_out (by omega), rse_out (by omega)]
  refine Or.inr (Or.inr ⟨by omega, by omega, ?_⟩)
  rw [rse_out (by omega), rse_out (by omega), rse_out (by omega), rse_out (by omega), rse_out (by omega)]
theorem lay_row (z : CS) (v x y dx dy : Int) : ∀ n : Nat, (lay z v x y dx dy n).1 = z.1 ∧ (∀ k : Nat, k ≠ 2 → k ≠ 3 → k ≠ 4 → (lay z v x y dx dy n).2 k = z.2 k) ∧ ∀ j : Int, (j < v * 400 ∨ v * 400 + 400 ≤ j) → (lay z v x y dx dy n).2 2 j = z.2 2 j
  | 0 => ⟨rfl, fun _ _ _ _ => rfl, fun _ _ => rfl⟩
  | n + 1 => by
    have h := lay_row z v x y dx dy n
    have h1 := cov_row (lay z v x y dx dy n) v (x + (n : Int) * dx) (y + (n : Int) * dy)
    refine ⟨h1.1.trans h.1, fun k k2 k3 k4 => (h1.2 k k2 k3 k4).trans (h.2.1 k k2 k3 k4), fun j hj => ?_⟩
    exact (cov_2_out hj).trans (h.2.2 j hj)
theorem lay_2 {N : Nat} (hin : ∀ k : Nat, k < N → inF (x + (k : Int) * dx) (y + (k : Int) * dy)) (hz : ∀ p : Int, 0 ≤ p → p < 400 → z.2 2 (v * 400 + p) = 0) : ∀ n : Nat, n ≤ N → ∀ p : Int, 0 ≤ p → p < 400 → (0 ≤ (lay z v x y dx dy n).2 2 (v * 400 + p) ∧ (lay z v x y dx dy n).2 2 (v * 400 + p) ≤ 2) ∧ ((lay z v x y dx dy n).2 2 (v * 400 + p) = 2 ↔ ∃ k : Nat, k < n ∧ vpt x y dx dy k = p) ∧ (1 ≤ (lay z v x y dx dy n).2 2 (v * 400 + p) ↔ ∃ k : Nat, k < n ∧ (vpt x y dx dy k = p ∨ dist (vpt x y dx dy k) p = 1))
  | 0, _, p, h0, h1 => by
    have e := hz p h0 h1
    show (0 ≤ z.2 2 (v * 400 + p) ∧ z.2 2 (v * 400 + p) ≤ 2) ∧ (z.2 2 (v * 400 + p) = 2 ↔ _) ∧ (1 ≤ z.2 2 (v * 400 + p) ↔ _)
    rw [e]
    exact ⟨by omega, ⟨fun q => absurd q (by decide), fun ⟨k, hk, _⟩ => absurd hk (by omega)⟩, ⟨fun q => absurd q (by decide), fun ⟨k, hk, _⟩ => absurd hk (by omega)⟩⟩
  | n + 1, hn, p, h0, h1 => by
    obtain ⟨i1, i2, i3⟩ := lay_2 hin hz n (by omega) p h0 h1
    have hc := cov_2_in (z := lay z v x y dx dy n) (v := v) (hin n (by omega)) ⟨h0, h1⟩ i1.1
    rw [ex_succ (fun k => vpt x y dx dy k = p) n, ex_succ (fun k => vpt x y dx dy k = p ∨ dist (vpt x y dx dy k) p = 1) n, ← i2, ← i3]
    show (0 ≤ (cov (lay z v x y dx dy n) v (x + (n : Int) * dx) (y + (n : Int) * dy)).2 2 (v * 400 + p) ∧ (cov (lay z v x y dx dy n) v (x + (n : Int) * dx) (y + (n : Int) * dy)).2 2 (v * 400 + p) ≤ 2) ∧ ((cov (lay z v x y dx dy n) v (x + (n : Int) * dx) (y + (n : Int) * dy)).2 2 (v * 400 + p) = 2 ↔ _) ∧ (1 ≤ (cov (lay z v x y dx dy n) v (x + (n : Int) * dx) (y + (n : Int) * dy)).2 2 (v * 400 + p) ↔ _)
    have hv : vpt x y dx dy n = (y + (n : Int) * dy) * 20 + (x + (n : Int) * dx) := rfl
    rw [hv]
    generalize (y + (n : Int) * dy) * 20 + (x + (n : Int) * dx) = f at hc ⊢
    generalize (cov (lay z v x y dx dy n) v (x + (n : Int) * dx) (y + (n : Int) * dy)).2 2 (v * 400 + p) = V at hc ⊢
    generalize (lay z v x y dx dy n).2 2 (v * 400 + p) = V0 at hc i1 ⊢
    generalize dist f p = d at hc ⊢
    omega
theorem lay_34 {N : Nat} (hinj : ∀ i j : Nat, i < j → j < N → vpt x y dx dy i ≠ vpt x y dx dy j) : ∀ n : Nat, n ≤ N → ∀ p : Int, ((∃ k : Nat, k < n ∧ vpt x y dx dy k = p) → (lay z v x y dx dy n).2 3 p = z.2 3 p + z.2 1 v ∧ (lay z v x y dx dy n).2 4 p = shlw z v p) ∧ ((¬ ∃ k : Nat, k < n ∧ vpt x y dx dy k = p) → (lay z v x y dx dy n).2 3 p = z.2 3 p ∧ (lay z v x y dx dy n).2 4 p = z.2 4 p)
  | 0, _, p => ⟨fun ⟨k, hk, _⟩ => absurd hk (by omega), fun _ => ⟨rfl, rfl⟩⟩
  | n + 1, hn, p => by
    obtain ⟨i1, i2⟩ := lay_34 hinj n (by omega) p
    have hr := lay_row z v x y dx dy n
    have e3 := cov_3 (lay z v x y dx dy n) v (x + (n : Int) * dx) (y + (n : Int) * dy)
    have e4 := cov_4 (lay z v x y dx dy n) v (x + (n : Int) * dx) (y + (n : Int) * dy)
    have hv : vpt x y dx dy n = (y + (n : Int) * dy) * 20 + (x + (n : Int) * dx) := rfl
    rw [ex_succ (fun k => vpt x y dx dy k = p) n]
    show (_ → (cov (lay z v x y dx dy n) v (x + (n : Int) * dx) (y + (n : Int) * dy)).2 3 p = _ ∧ (cov (lay z v x y dx dy n) v (x + (n : Int) * dx) (y + (n : Int) * dy)).2 4 p = _) ∧ (_ → (cov (lay z v x y dx dy n) v (x + (n : Int) * dx) (y + (n : Int) * dy)).2 3 p = _ ∧ (cov (lay z v x y dx dy n) v (x + (n : Int) * dx) (y + (n : Int) * dy)).2 4 p = _)
    rw [e3, e4, ← hv]
    by_cases e : p = vpt x y dx dy n
    · have hno : ¬ ∃ k : Nat, k < n ∧ vpt x y dx dy k = p := fun ⟨k, hk, hk2⟩ => hinj k n hk (by omega) (hk2.trans e)
      obtain ⟨j3, j4⟩ := i2 hno
      rw [← e, upZ_same, upZ_same, j3, hr.2.1 1 (by decide) (by decide) (by decide)]
      refine ⟨fun _ => ⟨rfl, ?_⟩, fun h => absurd (Or.inr rfl) h⟩
      unfold shlw
      rw [j4, hr.2.1 0 (by decide) (by decide) (by decide)]
    · rw [upZ_ne e, upZ_ne e]
      exact ⟨fun h => i1 (h.elim id (fun w => absurd w.symm e)), fun h => i2 (fun w => h (Or.inl w))⟩
end S27
section S28
variable {B : Int} {c m : CS}
theorem pb_same {c x : CS} (h5 : x.1 5 = c.1 5) (h12 : x.2 12 = c.2 12) (h13 : x.2 13 = c.2 13) (h14 : x.2 14 = c.2 14) (h15 : x.2 15 = c.2 15) (d rt : Int) : pbets x d rt = pbets c d rt := by
  unfold pbets
  rw [h5]
  refine sm_congr _ (fun q _ _ => ?_)
  have ef : fnd x q ↔ fnd c q := by show (0 < x.2 12 q ∧ x.2 12 q ≤ x.2 13 q) ↔ (0 < c.2 12 q ∧ c.2 12 q ≤ c.2 13 q); rw [h12, h13]
  have eo : over x q ↔ over c q := by show (fnd x q ∨ 20 ≤ x.2 13 q) ↔ (fnd c q ∨ 20 ≤ c.2 13 q); rw [ef, h13]
  show b01 ((over x q ∧ 0 < x.2 14 (q * 5 + d)) ∧ b01 (x.2 15 (q * 5 + d) = b01 (fnd x q)) = rt) = b01 ((over c q ∧ 0 < c.2 14 (q * 5 + d)) ∧ b01 (c.2 15 (q * 5 + d) = b01 (fnd c q)) = rt)
  rw [h14, h15, b01_congr ef]
  exact b01_congr ⟨fun z => ⟨⟨eo.mp z.1.1, z.1.2⟩, z.2⟩, fun z => ⟨⟨eo.mpr z.1.1, z.1.2⟩, z.2⟩⟩
theorem sgn_cs (z : Int) : (sgn z = 1 ∧ 0 < z) ∨ (sgn z = 0 ∧ z = 0) ∨ (sgn z = -1 ∧ z < 0) := by unfold sgn; omega
theorem vpt_inj {x y tx ty : Int} {N : Nat} (hN : N = layN x y tx ty) (i j : Nat) (hij : i < j) (hj : j < N) : vpt x y (sgn (tx - x)) (sgn (ty - y)) i ≠ vpt x y (sgn (tx - x)) (sgn (ty - y)) j := by
  unfold layN at hN
  have a1 := ab_cs (tx - x)
  have a2 := ab_cs (ty - y)
  unfold vpt
  rcases sgn_cs (tx - x) with ⟨e1, _⟩ | ⟨e1, _⟩ | ⟨e1, _⟩ <;> rcases sgn_cs (ty - y) with ⟨e2, _⟩ | ⟨e2, _⟩ | ⟨e2, _⟩ <;> rw [e1, e2] <;> omega
end S28
section S30
def lnOf (kd k : Int) : Int := if kd = 0 then k / 20 else if kd = 1 then k % 20 else if kd = 2 then k % 20 - k / 20 else k % 20 + k / 20
variable {B : Int} {c m : CS}
theorem bump_q (F : Int → Int) (i q : Int) : bump F i q = F q + b01 (q = i) := by
  unfold bump
  by_cases e : q = i
  · rw [e, upZ_same, b01_t rfl]
  · rw [upZ_ne e, b01_f e]; omega
theorem kn_cs {q : Int} (h : 0 ≤ q ∧ q < 118) : (q < 20 ∧ kindL q = 0 ∧ numL q = q) ∨ (20 ≤ q ∧ q < 40 ∧ kindL q = 1 ∧ numL q = q - 20) ∨ (40 ≤ q ∧ q < 79 ∧ kindL q = 2 ∧ numL q = q - 59) ∨ (79 ≤ q ∧ kindL q = 3 ∧ numL q = q - 79) := by
  unfold kindL numL
  by_cases a : q < 20
  · rw [if_pos a, if_pos a]; omega
  · rw [if_neg a, if_neg a]
    by_cases b : q < 40
    · rw [if_pos b, if_pos b]; omega
    · rw [if_neg b, if_neg b]
      by_cases d : q < 79
      · rw [if_pos d, if_pos d]; omega
      · rw [if_neg d, if_neg d]; omega
theorem lnOf_cs (k : Int) : lnOf 0 k = k / 20 ∧ lnOf 1 k = k % 20 ∧ lnOf 2 k = k % 20 - k / 20 ∧ lnOf 3 k = k % 20 + k / 20 := ⟨rfl, rfl, rfl, rfl⟩
theorem onL_sm (c : CS) {q : Int} (hq : 0 ≤ q ∧ q < 118) : ∀ n : Nat, n ≤ 400 → onL c n q = sm (fun k => b01 (c.2 8 k ≠ -1 ∧ lnOf (kindL q) k = numL q)) n
  | 0, _ => rfl
  | n + 1, hn => by
    have h1 := onL_sm c hq n (by omega)
    show (if c.2 8 (n : Int) ≠ -1 then bump (bump (bump (bump (onL c n) ((n : Int) / 20)) (20 + (n : Int) % 20)) ((59 + (n : Int) % 20) - (n : Int) / 20)) ((79 + (n : Int) % 20) + (n : Int) / 20) else onL c n : Int → Int) q = sm (fun k => b01 (c.2 8 k ≠ -1 ∧ lnOf (kindL q) k = numL q)) n + b01 (c.2 8 (n : Int) ≠ -1 ∧ lnOf (kindL q) (n : Int) = numL q)
    rw [← h1]
    by_cases e : c.2 8 (n : Int) ≠ -1
    · rw [if_pos e, bump_q, bump_q, bump_q, bump_q]
      have z1 := b01_cs (q = (n : Int) / 20)
      have z2 := b01_cs (q = 20 + (n : Int) % 20)
      have z3 := b01_cs (q = (59 + (n : Int) % 20) - (n : Int) / 20)
      have z4 := b01_cs (q = (79 + (n : Int) % 20) + (n : Int) / 20)
      have z5 := b01_cs (c.2 8 (n : Int) ≠ -1 ∧ lnOf (kindL q) (n : Int) = numL q)
      obtain ⟨l0, l1, l2, l3⟩ := lnOf_cs (n : Int)
      rcases kn_cs hq with ⟨a, b, d⟩ | ⟨a, a2, b, d⟩ | ⟨a, a2, b, d⟩ | ⟨a, b, d⟩ <;> rw [b, d] at z5 ⊢
      · rw [l0] at z5 ⊢; omega
      · rw [l1] at z5 ⊢; omega
      · rw [l2] at z5 ⊢; omega
      · rw [l3] at z5 ⊢; omega
    · rw [if_neg e, b01_f (fun z => e z.1), Int.add_zero]
theorem fm_max (F : Int → Int) : ∀ n : Nat, (∀ q : Int, 0 ≤ q → q < n → F q ≤ F (fm F n)) ∧ ∀ q : Int, 0 ≤ q → q < fm F n → F q < F (fm F n)
  | 0 => ⟨fun q h0 h1 => absurd h1 (by omega), fun q h0 h1 => absurd h1 (by show ¬ q < 0; omega)⟩
  | n + 1 => by
    obtain ⟨i1, i2⟩ := fm_max F n
    have hb := fm_b F n
    show (∀ q : Int, 0 ≤ q → q < ((n + 1 : Nat) : Int) → F q ≤ F (if F (fm F n) < F (n : Int) then (n : Int) else fm F n)) ∧ ∀ q : Int, 0 ≤ q → q < (if F (fm F n) < F (n : Int) then (n : Int) else fm F n) → F q < F (if F (fm F n) < F (n : Int) then (n : Int) else fm F n)
    by_cases e : F (fm F n) < F (n : Int)
    · rw [if_pos e]
      refine ⟨fun q h0 h1 => ?_, fun q h0 h1 => ?_⟩
      · by_cases e2 : q = n
        · rw [e2]; exact Int.le_refl _
        · have := i1 q h0 (by omega); omega
      · have := i1 q h0 h1; omega
    · rw [if_neg e]
      refine ⟨fun q h0 h1 => ?_, i2⟩
      by_cases e2 : q = n
      · rw [e2]; omega
      · exact i1 q h0 (by omega)
theorem sm_pos {f : Int → Int} (hf : ∀ j : Int, 0 ≤ f j) : ∀ n : Nat, 0 < sm f n → ∃ k : Nat, k < n ∧ 0 < f (k : Int)
  | 0, h => absurd h (by show ¬ (0 : Int) < 0; omega)
  | n + 1, h => by
    have h1 : 0 < sm f n + f (n : Int) := h
    by_cases e : 0 < f (n : Int)
    · exact ⟨n, by omega, e⟩
    · obtain ⟨k, hk, hk2⟩ := sm_pos hf n (by omega)
      exact ⟨k, by omega, hk2⟩
theorem sm_nn {f : Int → Int} (hf : ∀ j : Int, 0 ≤ f j) : ∀ n : Nat, 0 ≤ sm f n
  | 0 => Int.le_refl _
  | n + 1 => by
    have h1 := sm_nn hf n
    have h2 := hf (n : Int)
    show 0 ≤ sm f n + f (n : Int)
    omega
end S30
