/-! PAYING A PIT'S BETS: the shares are the same on both sides -/
section RC8
variable {B : Int} {c m : CS}
theorem RR.e_left (h : RR c m) {q f : Int} (hq : 0 ≤ q ∧ q < 10) (hf : 0 ≤ f ∧ f ≤ 1) : ∀ n : Nat, n ≤ 5 → left c q f n = mLft m q f n
  | 0, _ => by
    show allS c q = mBO m q 1 5 + mBO m q 0 5
    unfold allS
    rw [h.e_stOn hq (f := 1) (by omega), h.e_stOn hq (f := 0) (by omega)]
  | n + 1, hn => by
    rw [left, mLft, h.e_left hq hf n (by omega), payD_shr, mPyD_sh, h.e_shr hq (d := (n : Int)) (by omega) hf]
theorem RR.e_payc (h : RR c m) {q f : Int} (hq : 0 ≤ q ∧ q < 10) (hf : 0 ≤ f ∧ f ≤ 1) : ∀ n : Nat, n ≤ 5 → (payD c q f n).2 7 = (mPyD m q f n).2 5
  | 0, _ => h.coi
  | n + 1, hn => by
    have h1 := h.e_payc hq hf n (by omega)
    have h2 := (mPay1_c (mPyD m q f n) q f (n : Int)).2.1
    show upZ ((payD c q f n).2 7) (n : Int) ((payD c q f n).2 7 (n : Int) + shr (payD c q f n) q (n : Int) f) = (mPay1 (mPyD m q f n) q f (n : Int)).2 5
    rw [h2, h1, payD_shr, mPyD_sh, h.e_shr hq (d := (n : Int)) (by omega) hf]
end RC8
