/-! WALKS: both sides go the same spots -/
theorem mw_shift (x : CS) (d : Int) (f : Nat → Int) : ∀ n : Nat, mwC (mMkC x d (f 0)) d (fun k => f (k + 1)) n = mwC x d f (n + 1) ∧ mwR (mMkC x d (f 0)) d (fun k => f (k + 1)) n + b01 (mMk x d (f 0)) = mwR x d f (n + 1)
  | 0 => ⟨rfl, rfl⟩
  | n + 1 => by
    obtain ⟨h1, h2⟩ := mw_shift x d f n
    constructor
    · rw [mwC, h1]
      rfl
    · rw [mwR, h1]
      show _ = mwR x d f (n + 1) + b01 (mMk (mwC x d f (n + 1)) d (f (n + 1)))
      rw [← h2]
      omega
section RC6
variable {B : Int} {c m : CS}
theorem RR.k_wk (h : RR c m) (hM : IM B m) {d : Int} (hd : 0 ≤ d ∧ d < 5) (f f' : Nat → Int) : ∀ n : Nat, (∀ k : Nat, k < n → f k = f' k ∧ 0 ≤ f k ∧ f k < 400) → RR (wkC c d f n) (mwC m d f' n) ∧ wkR c d f n = mwR m d f' n
  | 0, _ => ⟨h, rfl⟩
  | n + 1, hf => by
    obtain ⟨h1, h2⟩ := h.k_wk hM hd f f' n (fun k hk => hf k (by omega))
    obtain ⟨g1, g2⟩ := hf n (by omega)
    have h3 := mwC_IM hM hd f' n
    rw [wkC, mwC, wkR, mwR, h2, ← g1]
    exact ⟨h1.k_mrk h3 d hd g2, by rw [b01_congr (h1.e_mrk h3 d g2)]⟩
end RC6
